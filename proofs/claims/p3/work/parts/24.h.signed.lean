/-! by hand: numbers with signs, pairs of them, fractions in least terms -/
theorem sgn3 (x : Int) : (x < 0 ∧ x.sign = -1) ∨ (x = 0 ∧ x.sign = 0) ∨ (0 < x ∧ x.sign = 1) := by
  rcases Int.lt_trichotomy x 0 with h | h | h
  · exact Or.inl ⟨h, Int.sign_eq_neg_one_of_neg h⟩
  · exact Or.inr (Or.inl ⟨h, by rw [h]; rfl⟩)
  · exact Or.inr (Or.inr ⟨h, Int.sign_eq_one_of_pos h⟩)
/-- number n is x -/
def Nv (W : Int) (z s : Nat) (h : MH) (n x : Int) : Prop := Num (ga h z) W n ∧ vl (ga h z) W n = (x.natAbs : Int) ∧ ga h s n = x.sign
section NV
variable {W : Int} {z s : Nat} {h h' : MH} {T : List Int} {n a b c x y : Int}
theorem Nv.keep (hW : 0 < W) (C : Ch W z s T h h') (hn : 0 ≤ n) (m : n ∉ T) (v : Nv W z s h n x) : Nv W z s h' n x := by
  have q := C.num hW hn m v.1
  exact ⟨q.1, q.2.1.trans v.2.1, q.2.2.2.trans v.2.2⟩
theorem Nv.sg (v : Nv W z s h n x) : -1 ≤ ga h s n ∧ ga h s n ≤ 1 := by
  rw [v.2.2]
  rcases sgn3 x with e | e | e <;> omega
theorem Nv.size (v : Nv W z s h n x) {m : Nat} (hm : (x.natAbs : Int) < PW m) : sz (ga h z) W n ≤ (m : Int) := sz_le v.1 (by rw [v.2.1]; exact hm)
theorem Nv.zero (v : Nv W z s h n x) : ga h s n = 0 ↔ vl (ga h z) W n = 0 := by
  rw [v.2.1, v.2.2]
  rcases sgn3 x with e | e | e <;> omega
theorem nv_copy (v : Nv W z s h a x) (p : Ch W z s [b] h h' ∧ Num (ga h' z) W b ∧ vl (ga h' z) W b = vl (ga h z) W a ∧ sz (ga h' z) W b = sz (ga h z) W a ∧ ga h' s b = ga h s a) : Nv W z s h' b x := ⟨p.2.1, p.2.2.1.trans v.2.1, p.2.2.2.2.trans v.2.2⟩
theorem nv_small {v : Int} (p : Ch W z s [n] h h' ∧ Num (ga h' z) W n ∧ ((0 ≤ v → vl (ga h' z) W n = v) ∧ (v < 0 → vl (ga h' z) W n = -v)) ∧ sz (ga h' z) W n ≤ 3 ∧ ga h' s n = (if 0 < v then 1 else if v < 0 then -1 else 0)) : Nv W z s h' n v := by
  refine ⟨p.2.1, ?_, ?_⟩
  · by_cases q : 0 ≤ v
    · rw [p.2.2.1.1 q]
      omega
    · rw [p.2.2.1.2 (by omega)]
      omega
  · rw [p.2.2.2.2]
    rcases sgn3 v with e | e | e
    · rw [if_neg (by omega), if_pos e.1, e.2]
    · rw [if_neg (by omega), if_neg (by omega), e.2]
    · rw [if_pos e.1, e.2]
theorem nv_product (va : Nv W z s h a x) (vb : Nv W z s h b y) (p : Ch W z s [c] h h' ∧ Num (ga h' z) W c ∧ vl (ga h' z) W c = vl (ga h z) W a * vl (ga h z) W b ∧ sz (ga h' z) W c ≤ sz (ga h z) W a + sz (ga h z) W b ∧ ga h' s c = (if sz (ga h' z) W c = 0 then 0 else ga h s a * ga h s b)) : Nv W z s h' c (x * y) := by
  have e : vl (ga h' z) W c = ((x * y).natAbs : Int) := by
    rw [p.2.2.1, va.2.1, vb.2.1, Int.natAbs_mul]
    rfl
  refine ⟨p.2.1, e, ?_⟩
  rw [p.2.2.2.2, va.2.2, vb.2.2, Int.sign_mul]
  split
  · next q =>
    have := (vl_zero p.2.1).mpr q
    rw [e] at this
    have : x * y = 0 := by omega
    rw [← Int.sign_mul, this]
    rfl
  · rfl
/-- adding of the same sign -/
theorem nv_add {p1 : Num (ga h' z) W a} (va : Nv W z s h a x) (vb : Nv W z s h b y) (hx : x ≠ 0) (e : ga h s a = ga h s b) (p2 : vl (ga h' z) W a = vl (ga h z) W a + vl (ga h z) W b) (p3 : ga h' s a = (if sz (ga h' z) W a = 0 then 0 else ga h s a)) : Nv W z s h' a (x + y) := by
  rw [va.2.2, vb.2.2] at e
  rw [va.2.1, vb.2.1] at p2
  have q := vl_zero p1
  rw [p2] at q
  rw [va.2.2] at p3
  have sx := sgn3 x
  have sy := sgn3 y
  have sxy := sgn3 (x + y)
  refine ⟨p1, by omega, ?_⟩
  rw [p3]
  split <;> omega
/-- taking of another sign: what is left has the sign of the greater one -/
theorem nv_take {p1 : Num (ga h' z) W c} (hx : x ≠ 0) (hy : y ≠ 0) (e : x.sign ≠ y.sign) (g : (y.natAbs : Int) ≤ x.natAbs) (p2 : vl (ga h' z) W c = (x.natAbs : Int) - y.natAbs) (p3 : ga h' s c = (if sz (ga h' z) W c = 0 then 0 else x.sign)) : Nv W z s h' c (x + y) := by
  have q := vl_zero p1
  rw [p2] at q
  have sx := sgn3 x
  have sy := sgn3 y
  have sxy := sgn3 (x + y)
  refine ⟨p1, by omega, ?_⟩
  rw [p3]
  split <;> omega
theorem Nv.neg (v : Nv W z s h n x) (zs : z ≠ s) (hn : 0 ≤ n) : Nv W z s (sa h s n (-ga h s n)) n (-x) := by
  refine ⟨by rw [ga_fun zs]; exact v.1, by rw [ga_fun zs, v.2.1, Int.natAbs_neg], ?_⟩
  rw [ga_sa _ _ _ hn hn, if_pos rfl, v.2.2, Int.sign_neg]
theorem Nv.other (v : Nv W z s h a x) (zs : z ≠ s) (hn : 0 ≤ n) (ha : 0 ≤ a) (an : a ≠ n) {w : Int} : Nv W z s (sa h s n w) a x := by
  refine ⟨by rw [ga_fun zs]; exact v.1, by rw [ga_fun zs]; exact v.2.1, ?_⟩
  rw [ga_sa _ _ _ hn ha, if_neg an]
  exact v.2.2
/-- a pair: p over q -/
def Pr (W : Int) (z s : Nat) (h : MH) (u d p q : Int) : Prop := Nv W z s h u p ∧ Nv W z s h d q ∧ 0 < q
/-- a fraction in least terms -/
def Hr (W : Int) (z s : Nat) (h : MH) (u d : Int) (r : Rat) : Prop := Pr W z s h u d r.num (r.den : Int)
theorem Pr.keep {u d p q : Int} (hW : 0 < W) (C : Ch W z s T h h') (hu : 0 ≤ u) (hd : 0 ≤ d) (mu : u ∉ T) (md : d ∉ T) (v : Pr W z s h u d p q) : Pr W z s h' u d p q := ⟨v.1.keep hW C hu mu, v.2.1.keep hW C hd md, v.2.2⟩
theorem pr_reduce {u d p q : Int} (v : Pr W z s h u d p q) (c : Num (ga h' z) W u ∧ Num (ga h' z) W d ∧ ga h' s u = ga h s u ∧ (((p.natAbs : Int) = 0 ∧ vl (ga h' z) W u = 0 ∧ vl (ga h' z) W d = 1 ∧ ga h' s d = 1) ∨ (0 < (p.natAbs : Int) ∧ vl (ga h' z) W u * gi p.natAbs q = p.natAbs ∧ vl (ga h' z) W d * gi p.natAbs q = q ∧ ga h' s d = ga h s d))) : Hr W z s h' u d (Rat.divInt p q) := by
  obtain ⟨N1, N2, s1, w⟩ := c
  obtain ⟨v1, v2, hq⟩ := v
  have sq : q.sign = 1 := Int.sign_eq_one_of_pos hq
  rcases w with ⟨e1, e2, e3, e4⟩ | ⟨e1, e2, e3, e4⟩
  · have p0 : p = 0 := by omega
    subst p0
    have z0 : Rat.divInt 0 q = 0 := Rat.zero_divInt q
    rw [z0]
    exact ⟨⟨N1, e2, by rw [s1, v1.2.2]; rfl⟩, ⟨N2, e3, e4⟩, by decide⟩
  · have gp : 0 < gi p.natAbs q := gi_pos e1 q
    have ge : (Int.gcd q p : Int) = gi p.natAbs q := by
      unfold gi
      rw [Int.gcd_comm]
      rfl
    have hn : (Rat.divInt p q).num = p / gi p.natAbs q := by
      rw [Rat.num_divInt, sq, Int.one_mul, ge]
    have hd : ((Rat.divInt p q).den : Int) = q / gi p.natAbs q := by
      rw [Rat.den_divInt, if_neg (by omega)]
      rw [← ge]
      show ((q.natAbs / q.gcd p : Nat) : Int) = _
      rw [Int.natCast_ediv]
      congr 1
      omega
    have hp : p = (p / gi p.natAbs q) * gi p.natAbs q := by
      rw [Int.ediv_mul_cancel]
      have := gi_dl p.natAbs q
      exact Int.dvd_natAbs.mp this
    have d1 : vl (ga h' z) W d = q / gi p.natAbs q := by
      have := Int.mul_ediv_cancel (vl (ga h' z) W d) (show gi p.natAbs q ≠ 0 by omega)
      rw [e3] at this
      exact this.symm
    have hqp : 0 < q / gi p.natAbs q := by
      rw [← d1]
      have := vl_nonneg N2
      have : vl (ga h' z) W d ≠ 0 := fun w => by
        rw [w, Int.zero_mul] at e3
        omega
      omega
    generalize hk : p / gi p.natAbs q = k at *
    generalize gi p.natAbs q = g at *
    have ks : k.sign = p.sign := by
      rw [hp, Int.sign_mul, Int.sign_eq_one_of_pos gp, Int.mul_one]
    refine ⟨⟨N1, ?_, ?_⟩, ⟨N2, ?_, ?_⟩, ?_⟩
    · rw [hn]
      have h1 : (p.natAbs : Int) = k.natAbs * g := by
        rw [hp, Int.natAbs_mul]
        show (k.natAbs : Int) * (g.natAbs : Int) = _
        congr 1
        omega
      rw [h1] at e2
      exact Int.eq_of_mul_eq_mul_right (by omega) e2
    · rw [s1, v1.2.2, hn, ks]
    · rw [hd, d1]
      omega
    · rw [e4, v2.2.2, sq, hd, Int.sign_eq_one_of_pos hqp]
    · rw [hd]
      exact hqp
end NV
theorem Hr.r {W : Int} {z s : Nat} {h : MH} {u d : Int} {r r' : Rat} (v : Hr W z s h u d r) (e : r = r') : Hr W z s h u d r' := e ▸ v
theorem rat_nd (r : Rat) : Rat.divInt r.num (r.den : Int) = r := Rat.num_divInt_den r
theorem rat_add (a b : Rat) : Rat.divInt (a.num * b.den + b.num * a.den) ((a.den : Int) * b.den) = a + b := by
  have h1 : (a.den : Int) ≠ 0 := by have := a.den_pos; omega
  have h2 : (b.den : Int) ≠ 0 := by have := b.den_pos; omega
  rw [← Rat.divInt_add_divInt _ _ h1 h2, rat_nd, rat_nd]
theorem rat_mul (a b : Rat) : Rat.divInt (a.num * b.num) ((a.den : Int) * b.den) = a * b := by
  rw [← Rat.divInt_mul_divInt, rat_nd, rat_nd]
theorem rat_div (a b : Rat) : Rat.divInt (a.num * b.den) ((a.den : Int) * b.num) = a / b := by
  rw [← Rat.divInt_mul_divInt, rat_nd, Rat.div_def, ← Rat.inv_divInt, rat_nd]
theorem PW_mul {x y : Int} {m n : Nat} (hx : (x.natAbs : Int) < PW m) (hy : (y.natAbs : Int) < PW n) : ((x * y).natAbs : Int) < PW (m + n) := by
  rw [PW_add, Int.natAbs_mul]
  show (x.natAbs : Int) * (y.natAbs : Int) < _
  have h1 : (x.natAbs : Int) * (y.natAbs : Int) ≤ x.natAbs * PW n := Int.mul_le_mul_of_nonneg_left (Int.le_of_lt hy) (by omega)
  have h2 : (x.natAbs : Int) * PW n < PW m * PW n := Int.mul_lt_mul_of_pos_right hx (PW_pos n)
  omega
theorem PW_sum {x y : Int} {m : Nat} (hx : (x.natAbs : Int) < PW m) (hy : (y.natAbs : Int) < PW m) : ((x + y).natAbs : Int) < PW (m + 1) := by
  rw [PW_s]
  omega
theorem PW_up {x : Int} {m n : Nat} (hx : x < PW m) (h : m ≤ n) : x < PW n := Int.lt_of_lt_of_le hx (PW_le h)
theorem nm1 {n t : Int} (e : n ≠ t) : n ∉ [t] := fun h => e (List.mem_singleton.mp h)
theorem nmc {n t : Int} {T : List Int} (e : n ≠ t) (h : n ∉ T) : n ∉ t :: T := fun m => (List.mem_cons.mp m).elim e h
theorem all1 {t : Int} {U : List Int} (a : t ∈ U) : ∀ n ∈ [t], n ∈ U := fun _ h => List.mem_singleton.mp h ▸ a
theorem allc {t : Int} {T U : List Int} (a : t ∈ U) (b : ∀ n ∈ T, n ∈ U) : ∀ n ∈ t :: T, n ∈ U := List.forall_mem_cons.mpr ⟨a, b⟩
theorem inS {t : Int} {T : List Int} : t ∈ t :: T := List.mem_cons_self
theorem inC {t u : Int} {T : List Int} (a : t ∈ T) : t ∈ u :: T := List.mem_cons_of_mem _ a
theorem nv_szs {W : Int} {z s : Nat} {h : MH} {a b x y : Int} {m n : Nat} (va : Nv W z s h a x) (vb : Nv W z s h b y) (hx : (x.natAbs : Int) < PW m) (hy : (y.natAbs : Int) < PW n) (hm : (m : Int) + n < W) : sz (ga h z) W a + sz (ga h z) W b < W := by
  have := va.size hx
  have := vb.size hy
  omega
theorem natAbs_pos {q : Int} (h : 0 < q) : (q.natAbs : Int) = q := by omega
theorem nv_vl {W : Int} {z s : Nat} {h : MH} {d q : Int} (v : Nv W z s h d q) (hq : 0 < q) : vl (ga h z) W d = q := v.2.1.trans (natAbs_pos hq)
theorem nv_su {W : Int} {z s : Nat} {h : MH} {u p : Int} (v : Nv W z s h u p) : ga h s u = 0 ↔ (p.natAbs : Int) = 0 := by
  have := v.zero
  rw [v.2.1] at this
  exact this
theorem PW_q {q : Int} {m : Nat} (hq : 0 < q) (h : (q.natAbs : Int) < PW m) : q < PW m := by omega
/-- powers of ten to the eighteenth -/
def TP : Nat → Int
  | 0 => 1
  | n + 1 => TP n * 1000000000000000000
theorem TP_pos : ∀ n, 0 < TP n
  | 0 => by decide
  | n + 1 => by
    have := TP_pos n
    unfold TP
    omega
theorem TP_le : ∀ {i j : Nat}, i ≤ j → TP i ≤ TP j
  | i, 0, h => by
    have : i = 0 := by omega
    rw [this]
    exact Int.le_refl _
  | i, j + 1, h => by
    by_cases e : i = j + 1
    · rw [e]
      exact Int.le_refl _
    · have := TP_le (i := i) (j := j) (by omega)
      have := TP_pos j
      show _ ≤ TP j * 1000000000000000000
      omega
theorem TP_s {x : Int} {k : Int} (hk : 0 ≤ k) (hx : 0 ≤ x) : x / TP (k + 1).toNat = x / TP k.toNat / 1000000000 / 1000000000 := by
  have e : (k + 1).toNat = k.toNat + 1 := by omega
  have p := TP_pos k.toNat
  rw [e]
  show x / (TP k.toNat * 1000000000000000000) = _
  rw [Int.ediv_ediv_of_nonneg (by decide), Int.ediv_ediv_of_nonneg (by omega)]
  rfl
theorem TP_zero {x : Int} {i j : Nat} (h0 : 0 ≤ x) (h : x / TP i = 0) (hij : i ≤ j) : x / TP j = 0 := by
  have p := TP_pos i
  have p2 := TP_pos j
  have l := TP_le hij
  have : x < TP i := by
    by_cases q : x < TP i
    · exact q
    · have := Int.le_ediv_of_mul_le p (show 1 * TP i ≤ x by omega)
      omega
  exact Int.ediv_eq_zero_of_lt h0 (by omega)
theorem dv_of {m v w r : Int} (hm : 0 < m) (e : m * w + r = v) (h0 : 0 ≤ r) (h1 : r < m) : w = v / m ∧ r = v % m := by
  have a := (Int.ediv_emod_unique hm (a := v) (r := r) (q := w)).mpr ⟨by omega, h0, h1⟩
  exact ⟨a.1.symm, a.2.symm⟩
theorem div_sign {p1 q1 p2 q2 : Int} (h2 : p2 ≠ 0) : Rat.divInt (p1 * q2 * p2.sign) (q1 * p2.natAbs) = Rat.divInt (p1 * q2) (q1 * p2) := by
  have s0 : p2.sign ≠ 0 := by
    have := sgn3 p2
    omega
  have e : q1 * (p2.natAbs : Int) = q1 * p2 * p2.sign := by
    rw [Int.mul_assoc]
    congr 1
    have := Int.sign_mul_natAbs p2
    rcases sgn3 p2 with w | w | w
    · rw [w.2]
      omega
    · omega
    · rw [w.2]
      omega
  rw [e, Rat.divInt_mul_right s0]
/-- the signs of a quotient's parts set anew -/
theorem nv_resign {W : Int} {z s : Nat} {h : MH} {n x y w : Int} (v : Nv W z s h n x) (zs : z ≠ s) (hn : 0 ≤ n) (e : (y.natAbs : Int) = x.natAbs) (hw : w = y.sign) : Nv W z s (sa h s n w) n y := by
  refine ⟨by rw [ga_fun zs]; exact v.1, by rw [ga_fun zs, v.2.1, e], ?_⟩
  rw [ga_sa _ _ _ hn hn, if_pos rfl, hw]
theorem sg_one {p : Int} (h : p ≠ 0) (x : Int) : ((x * p.sign).natAbs : Int) = x.natAbs := by
  rcases sgn3 p with w | w | w
  · rw [w.2]
    omega
  · omega
  · rw [w.2]
    omega
theorem sign_sign {p : Int} : p.sign.sign = p.sign := by
  rcases sgn3 p with w | w | w <;> rw [w.2] <;> rfl
