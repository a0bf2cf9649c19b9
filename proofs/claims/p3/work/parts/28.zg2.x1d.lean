/-! X1: a number in the heap -/
def SB (o W : Nat) (h : MH) : Prop := (o < h.1 ∧ (h.2 o).1 = 17 ∧ (17 < 16 → (h.2 o).2.1 = 0)) ∧ (o + 1 < h.1 ∧ (h.2 (o + 1)).1 = 0 ∧ (0 < 16 → (h.2 (o + 1)).2.1 = W)) ∧ (h.2 o).2.2 0 = ((o + 1 : Nat) : Int)
def G1 (l : List (Nat × Nat)) (h : MH) : Prop := ∀ q ∈ l, SB q.1 q.2 h
theorem G1.ob {l : List (Nat × Nat)} {h : MH} (g : G1 l h) (i : Nat) {o W : Nat} (e : l[i]? = some (o, W)) : o < h.1 ∧ (h.2 o).1 = 17 ∧ (17 < 16 → (h.2 o).2.1 = 0) := (g _ (List.mem_of_getElem? e)).1
theorem G1.ar {l : List (Nat × Nat)} {h : MH} (g : G1 l h) (i : Nat) {o W : Nat} (e : l[i]? = some (o, W)) : o + 1 < h.1 ∧ (h.2 (o + 1)).1 = 0 ∧ (0 < 16 → (h.2 (o + 1)).2.1 = W) := (g _ (List.mem_of_getElem? e)).2.1
theorem G1.rf {l : List (Nat × Nat)} {h : MH} (g : G1 l h) (i : Nat) {o W : Nat} (e : l[i]? = some (o, W)) : (h.2 o).2.2 0 = ((o + 1 : Nat) : Int) := (g _ (List.mem_of_getElem? e)).2.2
theorem SB.set {o W : Nat} {h : MH} (s : SB o W h) {c : Nat} {i v : Int} (i0 : 0 ≤ i) (n : c = o → i ≠ 0) : SB o W (sa h c i v) := by
  obtain ⟨⟨a1, a2, a3⟩, ⟨b1, b2, b3⟩, r⟩ := s
  refine ⟨⟨a1, (sa_kd h c i v o).1.trans a2, fun l => (sa_kd h c i v o).2.trans (a3 l)⟩, ⟨b1, (sa_kd h c i v (o + 1)).1.trans b2, fun l => (sa_kd h c i v (o + 1)).2.trans (b3 l)⟩, ?_⟩
  show ga (sa h c i v) o 0 = _
  by_cases q : o = c
  · subst q
    rw [ga_sa _ _ _ i0 (Int.le_refl 0), if_neg (fun w => n rfl w.symm)]
    exact r
  · rw [ga_ne _ _ _ _ q]
    exact r
theorem G1.set {l : List (Nat × Nat)} {h : MH} (g : G1 l h) {c : Nat} {i v : Int} (i0 : 0 ≤ i) (n : ∀ q ∈ l, c = q.1 → i ≠ 0) : G1 l (sa h c i v) := fun q hq => (g q hq).set i0 (n q hq)
theorem SB.only {o W : Nat} {cs : List Nat} {h h' : MH} (s : SB o W h) (a : Only cs h h') (n : o ∉ cs) : SB o W h' := by
  obtain ⟨⟨a1, a2, a3⟩, ⟨b1, b2, b3⟩, r⟩ := s
  refine ⟨⟨by rw [a.1]; exact a1, (a.2.1 o).1.trans a2, fun l => (a.2.1 o).2.trans (a3 l)⟩, ⟨by rw [a.1]; exact b1, (a.2.1 (o + 1)).1.trans b2, fun l => (a.2.1 (o + 1)).2.trans (b3 l)⟩, ?_⟩
  rw [a.2.2 o n]
  exact r
theorem G1.call {l l' : List (Nat × Nat)} {h h' : MH} {cs : List Nat} (g : G1 l h) (a : Only cs h h') (g' : G1 l' h') (n : ∀ q ∈ l, q ∈ l' ∨ q.1 ∉ cs) : G1 l h' := fun q hq => (n q hq).elim (fun m => g' q m) (fun m => (g q hq).only a m)
theorem G1.sub {l l' : List (Nat × Nat)} {h : MH} (g : G1 l h) (n : ∀ q ∈ l', q ∈ l) : G1 l' h := fun q hq => g q (n q hq)
theorem G1.fill {l : List (Nat × Nat)} {h : MH} (g : G1 l h) {c a b : Nat} {v : Int} (n : ∀ q ∈ l, c ≠ q.1) : G1 l (hfill h c a b v) := fun q hq => by
  obtain ⟨⟨a1, a2, a3⟩, ⟨b1, b2, b3⟩, r⟩ := g q hq
  have k : ∀ d : Nat, ((hfill h c a b v).2 d).1 = (h.2 d).1 ∧ ((hfill h c a b v).2 d).2.1 = (h.2 d).2.1 := fun d => by
    by_cases w : d = c
    · subst w
      rw [hfill_at]
      exact ⟨rfl, rfl⟩
    · rw [show (hfill h c a b v).2 d = h.2 d from if_neg w]
      exact ⟨rfl, rfl⟩
  refine ⟨⟨a1, (k _).1.trans a2, fun l => (k _).2.trans (a3 l)⟩, ⟨b1, (k _).1.trans b2, fun l => (k _).2.trans (b3 l)⟩, ?_⟩
  rw [show (hfill h c a b v).2 q.1 = h.2 q.1 from if_neg (fun w => n q hq w.symm)]
  exact r
theorem only_fill {h : MH} {c a b : Nat} {v : Int} : Only [c] h (hfill h c a b v) := ⟨rfl, fun d => by
    by_cases w : d = c
    · subst w
      rw [hfill_at]
      exact ⟨rfl, rfl⟩
    · rw [show (hfill h c a b v).2 d = h.2 d from if_neg w]
      exact ⟨rfl, rfl⟩, fun d n => if_neg (fun w => n (by rw [w]; exact List.mem_cons_self))⟩
theorem ga_fill {h : MH} {c : Nat} {b : Int} {v : Int} (b0 : 0 ≤ b) {j : Int} (j0 : 0 ≤ j) : ga (hfill h c (0 : Int).toNat b.toNat v) c j = if j < b then v else ga h c j := by
  show ((hfill h c (0 : Int).toNat b.toNat v).2 c).2.2 j.toNat = _
  rw [hfill_at]
  show (if (0 : Int).toNat ≤ j.toNat ∧ j.toNat < b.toNat then v else (h.2 c).2.2 j.toNat) = _
  by_cases q : j < b
  · rw [if_pos q, if_pos ⟨Nat.zero_le _, by omega⟩]
  · rw [if_neg q, if_neg (by omega)]
    rfl
theorem G1.copy {l : List (Nat × Nat)} {h : MH} (g : G1 l h) {a c s d z : Nat} (n : ∀ q ∈ l, c ≠ q.1) : G1 l (hcopy h a c s d z) := fun q hq => by
  obtain ⟨⟨a1, a2, a3⟩, ⟨b1, b2, b3⟩, r⟩ := g q hq
  have k : ∀ x : Nat, ((hcopy h a c s d z).2 x).1 = (h.2 x).1 ∧ ((hcopy h a c s d z).2 x).2.1 = (h.2 x).2.1 := fun x => by
    by_cases w : x = c
    · subst w
      rw [show (hcopy h a x s d z).2 x = _ from if_pos rfl]
      exact ⟨rfl, rfl⟩
    · rw [show (hcopy h a c s d z).2 x = h.2 x from if_neg w]
      exact ⟨rfl, rfl⟩
  refine ⟨⟨a1, (k _).1.trans a2, fun l => (k _).2.trans (a3 l)⟩, ⟨b1, (k _).1.trans b2, fun l => (k _).2.trans (b3 l)⟩, ?_⟩
  rw [show (hcopy h a c s d z).2 q.1 = h.2 q.1 from if_neg (fun w => n q hq w.symm)]
  exact r
theorem only_copy {h : MH} {a c s d z : Nat} : Only [c] h (hcopy h a c s d z) := ⟨rfl, fun x => by
    by_cases w : x = c
    · subst w
      rw [show (hcopy h a x s d z).2 x = _ from if_pos rfl]
      exact ⟨rfl, rfl⟩
    · rw [show (hcopy h a c s d z).2 x = h.2 x from if_neg w]
      exact ⟨rfl, rfl⟩, fun x n => if_neg (fun w => n (by rw [w]; exact List.mem_cons_self))⟩
theorem ga_copy {h : MH} {a c : Nat} {z : Int} (z0 : 0 ≤ z) {j : Int} (j0 : 0 ≤ j) : ga (hcopy h a c (0 : Int).toNat (0 : Int).toNat z.toNat) c j = if j < z then ga h a j else ga h c j := by
  show ((hcopy h a c (0 : Int).toNat (0 : Int).toNat z.toNat).2 c).2.2 j.toNat = _
  rw [show (hcopy h a c (0 : Int).toNat (0 : Int).toNat z.toNat).2 c = _ from if_pos rfl]
  show (if (0 : Int).toNat ≤ j.toNat ∧ j.toNat < (0 : Int).toNat + z.toNat then (h.2 a).2.2 ((0 : Int).toNat + (j.toNat - (0 : Int).toNat)) else (h.2 c).2.2 j.toNat) = _
  by_cases q : j < z
  · rw [if_pos q, if_pos ⟨Nat.zero_le _, by show j.toNat < 0 + z.toNat; omega⟩]
    show (h.2 a).2.2 (0 + (j.toNat - 0)) = _
    rw [Nat.zero_add, Nat.sub_zero]
    rfl
  · rw [if_neg q, if_neg (by show ¬ ((0 : Nat) ≤ j.toNat ∧ j.toNat < 0 + z.toNat); omega)]
    rfl
/-- a number of so many limbs at most -/
def BV1 (h : MH) (o W : Nat) (V : Int) : Prop := (0 ≤ ga h o 1 ∧ ga h o 1 ≤ (W : Int)) ∧ Dg1 (ga h (o + 1)) 1099511627776 ∧ nv1 (ga h (o + 1)) (ga h o 1).toNat = (V.natAbs : Int) ∧ ga h o 2 = V.sign ∧ (1 ≤ ga h o 1 → 1 ≤ ga h (o + 1) (ga h o 1 - 1))
theorem BV1.cg {h h' : MH} {o W : Nat} {V : Int} (b : BV1 h o W V) (e1 : ga h' o = ga h o) (e2 : ga h' (o + 1) = ga h (o + 1)) : BV1 h' o W V := by
  unfold BV1
  rw [e1, e2]
  exact b
theorem BV1.only {h h' : MH} {o W : Nat} {V : Int} {cs : List Nat} (b : BV1 h o W V) (a : Only cs h h') (n1 : o ∉ cs) (n2 : o + 1 ∉ cs) : BV1 h' o W V := b.cg (onlyF a n1) (onlyF a n2)
/-- trimmed -/
def TR1 (h h' : MH) (o : Nat) (t : Int) : Prop := (0 ≤ ga h' o 1 ∧ ga h' o 1 ≤ t) ∧ (∀ j : Int, ga h' o 1 ≤ j → j < t → ga h (o + 1) j = 0) ∧ (1 ≤ ga h' o 1 → ga h (o + 1) (ga h' o 1 - 1) ≠ 0) ∧ ga h' o 2 = if ga h' o 1 = 0 then 0 else ga h o 2
theorem TR1.val {h h' : MH} {o W : Nat} {t : Int} (r : TR1 h h' o t) (a : Only [o] h h') (d : Dg1 (ga h (o + 1)) 1099511627776) (tW : t ≤ (W : Int)) (W9 : W ≤ 1000) (t0 : 0 ≤ t) : nv1 (ga h' (o + 1)) (ga h' o 1).toNat = nv1 (ga h (o + 1)) t.toNat ∧ Dg1 (ga h' (o + 1)) 1099511627776 ∧ (1 ≤ ga h' o 1 → 1 ≤ ga h' (o + 1) (ga h' o 1 - 1)) ∧ (ga h' o 1 = 0 ↔ nv1 (ga h (o + 1)) t.toNat = 0) := by
  obtain ⟨r1, r2, r3, r4⟩ := r
  have e : ga h' (o + 1) = ga h (o + 1) := onlyF a (by rw [List.mem_singleton]; omega)
  rw [e]
  have z := nv1_zero (f := ga h (o + 1)) (n := (ga h' o 1).toNat) (m := t.toNat) (by omega) fun j a b => r2 j (by omega) (by omega)
  have tp : 1 ≤ ga h' o 1 → 1 ≤ ga h (o + 1) (ga h' o 1 - 1) := fun q => by
    have a := r3 q
    have b := d (ga h' o 1 - 1) (by omega) (by omega)
    omega
  refine ⟨z.symm, d, tp, ?_⟩
  rw [z]
  constructor
  · intro q
    rw [q]
    rfl
  · intro q
    by_cases w : ga h' o 1 = 0
    · exact w
    · exfalso
      obtain ⟨n, en⟩ : ∃ n : Nat, (ga h' o 1).toNat = n + 1 := ⟨(ga h' o 1).toNat - 1, by omega⟩
      have y := nv1_top (f := ga h (o + 1)) (n := n) (fun j a b => d j a (by omega)) (by
        have := tp (by omega)
        rw [show (n : Int) = ga h' o 1 - 1 by omega]
        exact this)
      rw [en] at q
      have := p30_pos n
      omega
theorem h_and30 (v : Int) : (Int64.ofInt v &&& Int64.ofInt 1073741823).toInt = v % 1073741824 := by
  have e1 : (Int64.ofInt v &&& Int64.ofInt 1073741823).toInt = (BitVec.ofInt 64 v &&& BitVec.ofInt 64 1073741823).toInt := rfl
  have e2 : (BitVec.ofInt 64 v &&& BitVec.ofInt 64 1073741823).toNat = (v % 18446744073709551616).toNat % 1073741824 := by
    rw [BitVec.toNat_and, BitVec.toNat_ofInt, BitVec.toNat_ofInt]
    have e3 : ((1073741823 : Int) % ((2 ^ 64 : Nat) : Int)).toNat = 2 ^ 30 - 1 := by decide
    rw [e3, Nat.and_two_pow_sub_one_eq_mod]
    rfl
  rw [e1, BitVec.toInt_eq_toNat_of_lt (by rw [e2]; omega), e2]
  omega
theorem h_shr30 {v : Int} (hv : -9223372036854775808 ≤ v ∧ v ≤ 9223372036854775807) : (Int64.ofInt v >>> ((Int32.ofInt 30).toInt64 &&& 63)).toInt = v / 1073741824 := by
  have e : (((Int32.ofInt 30).toInt64 &&& 63).toBitVec.smod 64).toNat = 30 := by decide +kernel
  rw [m_lshrX, e, mL_toInt hv, Int.shiftRight_eq_div_pow]
  rfl
theorem sign_b (x : Int) : -1 ≤ x.sign ∧ x.sign ≤ 1 := by
  rcases Int.lt_trichotomy x 0 with h | h | h
  · rw [Int.sign_eq_neg_one_of_neg h]
    decide
  · rw [h]
    decide
  · rw [Int.sign_eq_one_of_pos h]
    decide
/-- two numbers compared at the highest limb that differs -/
theorem nv1_cmp {f g : Int → Int} {n k : Nat} (hk : k < n) (e : ∀ j : Int, (k : Int) < j → j < (n : Int) → f j = g j) (df : Dg1 f k) (dg : Dg1 g k) (l : f (k : Int) < g (k : Int)) : nv1 f n < nv1 g n := by
  obtain ⟨m, rfl⟩ : ∃ m : Nat, n = (k + 1) + m := ⟨n - (k + 1), by omega⟩
  have u : uv1 f ((k + 1 : Nat) : Int) m = uv1 g ((k + 1 : Nat) : Int) m := nv1_cg (f := fun j => f (((k + 1 : Nat) : Int) + j)) (g := fun j => g (((k + 1 : Nat) : Int) + j)) fun j a b => e _ (by omega) (by omega)
  have a := (nv1_b df).2
  have b := (nv1_b dg).1
  have c := Int.mul_le_mul_of_nonneg_right (show f (k : Int) + 1 ≤ g (k : Int) by omega) (Int.le_of_lt (p30_pos k))
  rw [Int.add_mul, Int.one_mul] at c
  rw [nv1_split (f := f) (k := k + 1) m, nv1_split (f := g) (k := k + 1) m, u, nv1_2 (f := f) k, nv1_2 (f := g) k]
  omega
theorem nv1_len {f g : Int → Int} {n m : Nat} (h : n < m) (df : Dg1 f n) (dg : Dg1 g (m : Int)) (t : 1 ≤ g ((m : Int) - 1)) : nv1 f n < nv1 g m := by
  obtain ⟨k, rfl⟩ : ∃ k : Nat, m = k + 1 := ⟨m - 1, by omega⟩
  have a := (nv1_b df).2
  have b := nv1_top (f := g) (n := k) (fun j a b => dg j a (by omega)) (by rw [show (k : Int) = ((k + 1 : Nat) : Int) - 1 by omega]; exact t)
  have c := p30_mono (show n ≤ k by omega)
  omega
theorem sg_case (x : Int) : (x < 0 ∧ x.sign = -1) ∨ (x = 0 ∧ x.sign = 0) ∨ (0 < x ∧ x.sign = 1) := by
  rcases Int.lt_trichotomy x 0 with h | h | h
  · exact Or.inl ⟨h, Int.sign_eq_neg_one_of_neg h⟩
  · exact Or.inr (Or.inl ⟨h, by rw [h]; rfl⟩)
  · exact Or.inr (Or.inr ⟨h, Int.sign_eq_one_of_pos h⟩)
theorem add_sg {x y wy M sg : Int} (w : (wy = -1 ∧ x.sign * y.sign < 0) ∨ (wy = 1 ∧ 0 ≤ x.sign * y.sign)) (c : ((y.natAbs : Int) ≤ x.natAbs ∧ M = x.natAbs + wy * y.natAbs ∧ sg = x.sign) ∨ ((x.natAbs : Int) < y.natAbs ∧ M = y.natAbs + wy * x.natAbs ∧ sg = y.sign)) : M = ((x + y).natAbs : Int) ∧ (M ≠ 0 → sg = (x + y).sign) := by
  have sxy := sg_case (x + y)
  rcases sg_case x with ⟨a, e1⟩ | ⟨a, e1⟩ | ⟨a, e1⟩ <;> rcases sg_case y with ⟨b, e2⟩ | ⟨b, e2⟩ | ⟨b, e2⟩ <;> rw [e1, e2] at w <;> rcases w with ⟨w1, w2⟩ | ⟨w1, w2⟩ <;> first | (exfalso; omega) | (subst w1; rcases c with ⟨c1, c2, c3⟩ | ⟨c1, c2, c3⟩ <;> rw [c3] <;> (first | rw [e1] | rw [e2]) <;> (constructor <;> omega))
/-- the limbs below a length -/
def lim1 (f : Int → Int) (n : Int) : Int → Int := fun j => if j < n then f j else 0
theorem lim1_v {f : Int → Int} {n : Int} {m : Nat} (h0 : 0 ≤ n) (h : n ≤ (m : Int)) : nv1 (lim1 f n) m = nv1 f n.toNat := by
  rw [nv1_zero (f := lim1 f n) (n := n.toNat) (m := m) (by omega) (fun j a b => by
    show (if j < n then f j else 0) = 0
    rw [if_neg (by omega)])]
  exact nv1_cg fun j a b => by
    show (if j < n then f j else 0) = f j
    rw [if_pos (by omega)]
/-- one limb of a sum -/
theorem sum1 {P c x y b t X Y w : Int} {k : Nat} (h : P + c * 1073741824 ^ k = X + w * Y) (e : c + x + w * y = b + 1073741824 * t) : P + b * 1073741824 ^ k + t * 1073741824 ^ (k + 1) = X + x * 1073741824 ^ k + w * (Y + y * 1073741824 ^ k) := by
  rw [p30_s, Int.mul_add]
  have e1 : w * (y * 1073741824 ^ k) = (w * y) * 1073741824 ^ k := by rw [← Int.mul_assoc]
  have e2 : t * (1073741824 * 1073741824 ^ k) = (1073741824 * t) * 1073741824 ^ k := by rw [Int.mul_left_comm, ← Int.mul_assoc]
  have e3 : (b + 1073741824 * t) * 1073741824 ^ k = (c + x + w * y) * 1073741824 ^ k := by rw [e]
  rw [Int.add_mul, Int.add_mul, Int.add_mul] at e3
  rw [e1, e2]
  omega
