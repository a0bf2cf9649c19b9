/-! intervals: what a value lies between; sums, products and the like of intervals -/
abbrev Vl : Type := Nat × Nat × Int
abbrev Iv : Type := Int × Int × Nat
abbrev Sg : Type := List (Nat × Iv)
abbrev Mo : Type := List ((Nat × Int) × (Nat × Int) × Vl)
abbrev Dc : Type := List (Nat × Nat × Int)
abbrev Lv : Type := List (Nat × Vl)
/-- where the cells are in classes: the class of a cell, what a class holds (kind, length, rows of bounds), how many cells -/
abbrev Tc : Type := (Nat → Nat) × (Nat → Nat × Nat × Sg) × Nat
def cv (ρ : Nat → Int) (v : Vl) : MV := (v.1, ρ v.2.1 + v.2.2)
def cL (ρ : Nat → Int) (L : Lv) : List (Nat × MV) := L.map fun q => (q.1, cv ρ q.2)
def cS (ρ : Nat → Int) (S : List Vl) : List MV := S.map (cv ρ)
/-- z is a cell of class c -/
def rOk (T : Tc) (c : Nat) (z : Int) : Prop := 0 ≤ z ∧ z.toNat < T.2.2 ∧ T.1 z.toNat = c
def ivOk (T : Tc) (e : Iv) (z : Int) : Prop := e.1 ≤ z ∧ z ≤ e.2.1 ∧ (e.2.2 ≠ 0 → rOk T e.2.2 z)
def sgAt : Sg → Nat → Option Iv
  | [], _ => none
  | s :: r, j => if j < s.1 then some s.2 else sgAt r j
def cellOk (T : Tc) (d : Nat × Nat × Sg) (c : MC) : Prop := c.1 = d.1 ∧ (d.1 < 16 → c.2.1 = d.2.1) ∧ ∀ (j : Nat) (e : Iv), sgAt d.2.2 j = some e → ivOk T e (c.2.2 j)
/-- what always holds of the heap -/
def GH (T : Tc) (h : MH) : Prop := T.2.2 ≤ h.1 ∧ ∀ a, a < T.2.2 → cellOk T (T.2.1 (T.1 a)) (h.2 a)
def inR (W : List (Nat × Nat)) (a : Nat) : Bool := W.any fun q => Nat.ble q.1 a && Nat.ble a q.2
/-- of the cells that were there, only those in W changed -/
def HRel (W : List (Nat × Nat)) (h h' : MH) : Prop := h.1 ≤ h'.1 ∧ ∀ a, a < h.1 → inR W a = false → h'.2 a = h.2 a
theorem HRel.refl (W : List (Nat × Nat)) (h : MH) : HRel W h h := ⟨Nat.le_refl _, fun _ _ _ => rfl⟩
theorem inR_of {W : List (Nat × Nat)} {a : Nat} : inR W a = true ↔ ∃ q ∈ W, q.1 ≤ a ∧ a ≤ q.2 := by
  unfold inR
  rw [List.any_eq_true]
  constructor
  · rintro ⟨q, h1, h2⟩
    rw [Bool.and_eq_true] at h2
    exact ⟨q, h1, Nat.le_of_ble_eq_true h2.1, Nat.le_of_ble_eq_true h2.2⟩
  · rintro ⟨q, h1, h2, h3⟩
    exact ⟨q, h1, by rw [Bool.and_eq_true]; exact ⟨Nat.ble_eq_true_of_le h2, Nat.ble_eq_true_of_le h3⟩⟩
/-- all of V lies in W -/
def subW (V W : List (Nat × Nat)) : Bool := V.all fun q => W.any fun p => Nat.ble p.1 q.1 && Nat.ble q.2 p.2
theorem subW_of {V W : List (Nat × Nat)} (h : subW V W = true) {a : Nat} (ha : inR V a = true) : inR W a = true := by
  obtain ⟨q, h1, h2, h3⟩ := inR_of.mp ha
  have := List.all_eq_true.mp h q h1
  obtain ⟨p, p1, p2⟩ := List.any_eq_true.mp this
  rw [Bool.and_eq_true] at p2
  exact inR_of.mpr ⟨p, p1, Nat.le_trans (Nat.le_of_ble_eq_true p2.1) h2, Nat.le_trans h3 (Nat.le_of_ble_eq_true p2.2)⟩
theorem HRel.trans {V W : List (Nat × Nat)} {h0 h h' : MH} (a : HRel W h0 h) (b : HRel V h h') (s : subW V W = true) : HRel W h0 h' := by
  refine ⟨Nat.le_trans a.1 b.1, fun c hc hw => ?_⟩
  have hv : inR V c = false := by
    cases e : inR V c with
    | false => rfl
    | true => rw [subW_of s e] at hw; cases hw
  rw [b.2 c (Nat.lt_of_lt_of_le hc a.1) hv, a.2 c hc hw]
theorem HRel.set {W : List (Nat × Nat)} {h0 h : MH} (a : HRel W h0 h) {c j : Nat} {z : Int} (hc : inR W c = true) : HRel W h0 (hset h c j z) := by
  refine ⟨a.1, fun b hb hw => ?_⟩
  rw [← a.2 b hb hw]
  have : b ≠ c := fun e => by rw [e, hc] at hw; cases hw
  show (if b = c then _ else h.2 b) = h.2 b
  rw [if_neg this]
/-- the bounds of places lo to hi; none: some lie beyond -/
def sgMap : Sg → Nat → Nat → Option (List Iv)
  | [], _, _ => none
  | s :: r, lo, hi => if hi < s.1 then some [s.2] else if s.1 ≤ lo then sgMap r lo hi else (sgMap r lo hi).map (s.2 :: ·)
theorem sgMap_of : ∀ (g : Sg) (lo hi : Nat) (es : List Iv), sgMap g lo hi = some es → ∀ j, lo ≤ j → j ≤ hi → ∃ e ∈ es, sgAt g j = some e
  | [], _, _, _, h, _, _, _ => by cases h
  | s :: r, lo, hi, es, h, j, h1, h2 => by
    unfold sgMap at h
    unfold sgAt
    split at h
    · next q =>
      cases h
      rw [if_pos (by omega)]
      exact ⟨_, List.mem_cons_self, rfl⟩
    · split at h
      · next q1 q2 =>
        rw [if_neg (by omega)]
        exact sgMap_of r lo hi es h j h1 h2
      · next q1 q2 =>
        cases e : sgMap r lo hi with
        | none => rw [e] at h; cases h
        | some fs =>
          rw [e] at h
          cases h
          split
          · exact ⟨_, List.mem_cons_self, rfl⟩
          · obtain ⟨x, m1, m2⟩ := sgMap_of r lo hi fs e j h1 h2
            exact ⟨x, List.mem_cons_of_mem _ m1, m2⟩
def ivJ (a b : Iv) : Iv := (if a.1 ≤ b.1 then a.1 else b.1, if a.2.1 ≤ b.2.1 then b.2.1 else a.2.1, if Nat.beq a.2.2 b.2.2 then a.2.2 else 0)
theorem ivJ_l {T : Tc} {a b : Iv} {z : Int} (h : ivOk T a z) : ivOk T (ivJ a b) z := by
  obtain ⟨h1, h2, h3⟩ := h
  unfold ivJ
  refine ⟨?_, ?_, ?_⟩
  · show (if _ then _ else _) ≤ z
    split <;> omega
  · show z ≤ if _ then _ else _
    split <;> omega
  · show (if _ then _ else _) ≠ 0 → rOk T (if _ then _ else _) z
    split
    · exact h3
    · exact fun q => absurd rfl q
theorem ivJ_r {T : Tc} {a b : Iv} {z : Int} (h : ivOk T b z) : ivOk T (ivJ a b) z := by
  obtain ⟨h1, h2, h3⟩ := h
  unfold ivJ
  refine ⟨?_, ?_, ?_⟩
  · show (if _ then _ else _) ≤ z
    split <;> omega
  · show z ≤ if _ then _ else _
    split <;> omega
  · show (if _ then _ else _) ≠ 0 → rOk T (if _ then _ else _) z
    split
    · next q => rw [Nat.eq_of_beq_eq_true q]; exact h3
    · exact fun q => absurd rfl q
def ivJs : List Iv → Option Iv
  | [] => none
  | [e] => some e
  | e :: r => (ivJs r).map (ivJ e)
theorem ivJs_of {T : Tc} {z : Int} : ∀ (es : List Iv) (e f : Iv), ivJs es = some e → f ∈ es → ivOk T f z → ivOk T e z
  | [], _, _, h, _, _ => by cases h
  | [e'], e, f, h, m, k => by
    cases h
    rw [List.mem_singleton.mp m] at k
    exact k
  | e' :: g :: r, e, f, h, m, k => by
    have h : (ivJs (g :: r)).map (ivJ e') = some e := h
    cases q : ivJs (g :: r) with
    | none => rw [q] at h; cases h
    | some x =>
      rw [q] at h
      cases h
      rcases List.mem_cons.mp m with m | m
      · rw [m] at k; exact ivJ_l k
      · exact ivJ_r (ivJs_of (g :: r) x f q m k)
/-- a lies within b -/
def ivIn (a b : Iv) : Bool := decide (b.1 ≤ a.1) && (decide (a.2.1 ≤ b.2.1) && (Nat.beq b.2.2 0 || Nat.beq b.2.2 a.2.2))
theorem ivIn_of {T : Tc} {a b : Iv} (h : ivIn a b = true) {z : Int} (k : ivOk T a z) : ivOk T b z := by
  unfold ivIn at h
  rw [Bool.and_eq_true, Bool.and_eq_true, Bool.or_eq_true] at h
  obtain ⟨h1, h2, h3⟩ := h
  have h1 := of_decide_eq_true h1
  have h2 := of_decide_eq_true h2
  obtain ⟨k1, k2, k3⟩ := k
  refine ⟨by omega, by omega, fun q => ?_⟩
  rcases h3 with h3 | h3
  · exact absurd (Nat.eq_of_beq_eq_true h3) q
  · have e := Nat.eq_of_beq_eq_true h3
    rw [e]
    exact k3 (e ▸ q)
/-- the class of a reference that lies in e -/
def rcls (T : Tc) (e : Iv) : Option Nat := if Nat.beq e.2.2 0 then (if decide (e.1 = e.2.1) && (decide (0 ≤ e.1) && decide (e.1.toNat < T.2.2)) then some (T.1 e.1.toNat) else none) else some e.2.2
theorem rcls_of {T : Tc} {e : Iv} {c : Nat} (h : rcls T e = some c) {z : Int} (k : ivOk T e z) : rOk T c z := by
  unfold rcls at h
  split at h
  · next q =>
    split at h
    · next q2 =>
      rw [Bool.and_eq_true, Bool.and_eq_true] at q2
      have a1 := of_decide_eq_true q2.1
      have a2 := of_decide_eq_true q2.2.1
      have a3 := of_decide_eq_true q2.2.2
      have : z = e.1 := by
        have := k.1
        have := k.2.1
        omega
      subst this
      cases h
      exact ⟨a2, a3, rfl⟩
    · cases h
  · next q =>
    cases h
    refine k.2.2 (fun z => q ?_)
    rw [z]
    rfl
/-- what a value lies between -/
def ivOf (env : List Iv) (v : Vl) : Option Iv := if Nat.beq v.2.1 0 then some (v.2.2, v.2.2, 0) else match env[v.2.1]? with
  | some e => some (e.1 + v.2.2, e.2.1 + v.2.2, if v.2.2 = 0 then e.2.2 else 0)
  | none => none
/-- ρ keeps to env -/
def RelE (T : Tc) (ρ : Nat → Int) (env : List Iv) : Prop := 0 < env.length ∧ ρ 0 = 0 ∧ ∀ (b : Nat) (e : Iv), env[b]? = some e → ivOk T e (ρ b)
theorem ivOf_of {T : Tc} {ρ : Nat → Int} {env : List Iv} (R : RelE T ρ env) {v : Vl} {e : Iv} (h : ivOf env v = some e) : ivOk T e (ρ v.2.1 + v.2.2) := by
  unfold ivOf at h
  split at h
  · next q =>
    cases h
    rw [Nat.eq_of_beq_eq_true q, R.2.1]
    exact ⟨by show v.2.2 ≤ 0 + v.2.2; omega, by show 0 + v.2.2 ≤ v.2.2; omega, fun q => absurd rfl q⟩
  · split at h
    · next f hf =>
      cases h
      obtain ⟨k1, k2, k3⟩ := R.2.2 _ _ hf
      refine ⟨by show f.1 + _ ≤ _; omega, by show _ ≤ f.2.1 + _; omega, ?_⟩
      show (if _ then _ else _) ≠ 0 → rOk T (if _ then _ else _) _
      split
      · next z => rw [z, Int.add_zero]; exact k3
      · exact fun q => absurd rfl q
    · cases h
theorem ivOf_lt {env : List Iv} (h0 : 0 < env.length) {v : Vl} {e : Iv} (h : ivOf env v = some e) : v.2.1 < env.length := by
  unfold ivOf at h
  split at h
  · next q => rw [Nat.eq_of_beq_eq_true q]; exact h0
  · split at h
    · next f hf => exact (List.getElem?_eq_some_iff.mp hf).1
    · cases h
/-- differences that are known hold -/
def DcOk (ρ : Nat → Int) (n : Nat) (dc : Dc) : Prop := ∀ q ∈ dc, q.1 < n ∧ q.2.1 < n ∧ ρ q.1 ≤ ρ q.2.1 + q.2.2
/-- a known difference of two numbers; of two by a third -/
def dc1 (dc : Dc) (a b : Nat) : Option Int := match dc.find? fun q => Nat.beq q.1 a && Nat.beq q.2.1 b with
  | some q => some q.2.2
  | none => none
def dc2 (dc : Dc) (a b : Nat) : Option Int := match dc1 dc a b with
  | some c => some c
  | none => dc.findSome? fun q => if Nat.beq q.1 a then (match dc1 dc q.2.1 b with
    | some c => some (q.2.2 + c)
    | none => none) else none
theorem dc1_of {ρ : Nat → Int} {n : Nat} {dc : Dc} (D : DcOk ρ n dc) {a b : Nat} {c : Int} (h : dc1 dc a b = some c) : ρ a ≤ ρ b + c := by
  unfold dc1 at h
  split at h
  · next q hq =>
    cases h
    have m := List.mem_of_find?_eq_some hq
    have p := List.find?_some hq
    rw [Bool.and_eq_true] at p
    have := (D q m).2.2
    rw [Nat.eq_of_beq_eq_true p.1, Nat.eq_of_beq_eq_true p.2] at this
    exact this
  · cases h
theorem dc2_of {ρ : Nat → Int} {n : Nat} {dc : Dc} (D : DcOk ρ n dc) {a b : Nat} {c : Int} (h : dc2 dc a b = some c) : ρ a ≤ ρ b + c := by
  unfold dc2 at h
  split at h
  · next c' hc =>
    cases h
    exact dc1_of D hc
  · obtain ⟨q, m, hq⟩ := List.exists_of_findSome?_eq_some h
    split at hq
    · next e =>
      split at hq
      · next c' hc =>
        cases hq
        have h1 := (D q m).2.2
        have h2 := dc1_of D hc
        rw [Nat.eq_of_beq_eq_true e] at h1
        omega
      · cases hq
    · cases hq
def mn2 (a b : Option Int) : Option Int := match a, b with
  | some x, some y => some (if x ≤ y then x else y)
  | some x, none => some x
  | none, some y => some y
  | none, none => none
def dUBi (env : List Iv) (x y : Vl) : Option Int := match ivOf env x, ivOf env y with
  | some a, some b => some (a.2.1 - b.1)
  | _, _ => none
/-- a bound from above of x - y -/
def dUB (env : List Iv) (dc : Dc) (x y : Vl) : Option Int := if Nat.beq x.2.1 y.2.1 then some (x.2.2 - y.2.2) else mn2 (match dc2 dc x.2.1 y.2.1 with
  | some c => some (c + x.2.2 - y.2.2)
  | none => none) (dUBi env x y)
theorem mn2_of {a b : Option Int} {c z : Int} (h : mn2 a b = some c) (ha : ∀ x, a = some x → z ≤ x) (hb : ∀ x, b = some x → z ≤ x) : z ≤ c := by
  unfold mn2 at h
  split at h
  · next x y =>
    cases h
    have := ha x rfl
    have := hb y rfl
    split <;> omega
  · cases h; exact ha _ rfl
  · cases h; exact hb _ rfl
  · cases h
theorem dUB_of {T : Tc} {ρ : Nat → Int} {n : Nat} {env : List Iv} {dc : Dc} (R : RelE T ρ env) (D : DcOk ρ n dc) {x y : Vl} {c : Int} (h : dUB env dc x y = some c) : (ρ x.2.1 + x.2.2) - (ρ y.2.1 + y.2.2) ≤ c := by
  unfold dUB at h
  split at h
  · next q =>
    cases h
    rw [Nat.eq_of_beq_eq_true q]
    omega
  · refine mn2_of h (fun w hw => ?_) fun w hw => ?_
    · split at hw
      · next d hd =>
        cases hw
        have := dc2_of D hd
        omega
      · cases hw
    · unfold dUBi at hw
      split at hw
      · next a b ha hb =>
        cases hw
        have := (ivOf_of R ha).2.1
        have := (ivOf_of R hb).1
        omega
      · cases hw
/-- x ≤ y + k is told: the bounds that follow; none: it can't be -/
def setHi (env : List Iv) (b : Nat) (z : Int) : Option (List Iv) := match env[b]? with
  | some e => if e.2.1 ≤ z then some env else if z < e.1 then none else some (env.set b (e.1, z, e.2.2))
  | none => some env
def setLo (env : List Iv) (b : Nat) (z : Int) : Option (List Iv) := match env[b]? with
  | some e => if z ≤ e.1 then some env else if e.2.1 < z then none else some (env.set b (z, e.2.1, e.2.2))
  | none => some env
theorem setHi_of {T : Tc} {ρ : Nat → Int} {env : List Iv} (R : RelE T ρ env) {b : Nat} {z : Int} (h : ρ b ≤ z) : ∃ env', setHi env b z = some env' ∧ RelE T ρ env' ∧ env'.length = env.length := by
  unfold setHi
  cases e : env[b]? with
  | none => exact ⟨env, rfl, R, rfl⟩
  | some f =>
    have k := R.2.2 _ _ e
    show ∃ env', (if f.2.1 ≤ z then some env else if z < f.1 then none else some (env.set b (f.1, z, f.2.2))) = some env' ∧ _
    split
    · exact ⟨env, rfl, R, rfl⟩
    · split
      · exact absurd (Int.le_trans k.1 h) (by omega)
      · refine ⟨_, rfl, ⟨by rw [List.length_set]; exact R.1, R.2.1, fun c g hg => ?_⟩, List.length_set⟩
        rw [List.getElem?_set] at hg
        split at hg
        · next q =>
          split at hg
          · cases hg
            subst q
            exact ⟨k.1, h, k.2.2⟩
          · cases hg
        · exact R.2.2 _ _ hg
theorem setLo_of {T : Tc} {ρ : Nat → Int} {env : List Iv} (R : RelE T ρ env) {b : Nat} {z : Int} (h : z ≤ ρ b) : ∃ env', setLo env b z = some env' ∧ RelE T ρ env' ∧ env'.length = env.length := by
  unfold setLo
  cases e : env[b]? with
  | none => exact ⟨env, rfl, R, rfl⟩
  | some f =>
    have k := R.2.2 _ _ e
    show ∃ env', (if z ≤ f.1 then some env else if f.2.1 < z then none else some (env.set b (z, f.2.1, f.2.2))) = some env' ∧ _
    split
    · exact ⟨env, rfl, R, rfl⟩
    · split
      · exact absurd (Int.le_trans h k.2.1) (by omega)
      · refine ⟨_, rfl, ⟨by rw [List.length_set]; exact R.1, R.2.1, fun c g hg => ?_⟩, List.length_set⟩
        rw [List.getElem?_set] at hg
        split at hg
        · next q =>
          split at hg
          · cases hg
            subst q
            exact ⟨h, k.2.1, k.2.2⟩
          · cases hg
        · exact R.2.2 _ _ hg
def asm (env : List Iv) (dc : Dc) (x y : Vl) (k : Int) : Option (List Iv × Dc) := match ivOf env x, ivOf env y with
  | some a, some b => match setHi env x.2.1 (b.2.1 + k - x.2.2) with
    | some e1 => match setLo e1 y.2.1 (a.1 - k - y.2.2) with
      | some e2 => some (e2, if Nat.beq x.2.1 0 || Nat.beq y.2.1 0 then dc else (x.2.1, y.2.1, y.2.2 - x.2.2 + k) :: dc)
      | none => none
    | none => none
  | _, _ => some (env, dc)
theorem asm_of {T : Tc} {ρ : Nat → Int} {env : List Iv} {dc : Dc} (R : RelE T ρ env) (D : DcOk ρ env.length dc) {x y : Vl} {k : Int} (h : ρ x.2.1 + x.2.2 ≤ ρ y.2.1 + y.2.2 + k) : ∃ q, asm env dc x y k = some q ∧ RelE T ρ q.1 ∧ DcOk ρ env.length q.2 ∧ q.1.length = env.length := by
  unfold asm
  cases ea : ivOf env x with
  | none => exact ⟨_, rfl, R, D, rfl⟩
  | some a =>
    cases eb : ivOf env y with
    | none => exact ⟨_, rfl, R, D, rfl⟩
    | some b =>
      have ka := ivOf_of R ea
      have kb := ivOf_of R eb
      have la := ivOf_lt R.1 ea
      have lb := ivOf_lt R.1 eb
      obtain ⟨e1, h1, R1, l1⟩ := setHi_of R (b := x.2.1) (z := b.2.1 + k - x.2.2) (by have := kb.2.1; omega)
      obtain ⟨e2, h2, R2, l2⟩ := setLo_of R1 (b := y.2.1) (z := a.1 - k - y.2.2) (by have := ka.1; omega)
      show ∃ q, (match setHi env x.2.1 (b.2.1 + k - x.2.2) with
        | some e1 => match setLo e1 y.2.1 (a.1 - k - y.2.2) with
          | some e2 => some (e2, if Nat.beq x.2.1 0 || Nat.beq y.2.1 0 then dc else (x.2.1, y.2.1, y.2.2 - x.2.2 + k) :: dc)
          | none => none
        | none => none) = some q ∧ _
      rw [h1]
      show ∃ q, (match setLo e1 y.2.1 (a.1 - k - y.2.2) with
          | some e2 => some (e2, if Nat.beq x.2.1 0 || Nat.beq y.2.1 0 then dc else (x.2.1, y.2.1, y.2.2 - x.2.2 + k) :: dc)
          | none => none) = some q ∧ _
      rw [h2]
      refine ⟨_, rfl, R2, ?_, l2.trans l1⟩
      show DcOk ρ _ (if _ then _ else _)
      split
      · exact D
      · intro q hq
        rcases List.mem_cons.mp hq with q1 | q1
        · rw [q1]
          exact ⟨la, lb, by show ρ x.2.1 ≤ ρ y.2.1 + (y.2.2 - x.2.2 + k); omega⟩
        · exact D q q1
