/-! a case: its terms over one lower part -/
def WL (h : MH) (W L : Int) : Prop := (ga h 2514 13 ≠ 0 → Nv 140 2515 2516 h 16 W ∧ Nv 140 2515 2516 h 14 L) ∧ (W.natAbs : Int) < PW 28 ∧ 0 < L ∧ L < PW 11
theorem J19.wl {h : MH} {cn : Int} (j : J19 h cn) : ∃ W L : Int, WL h W L := by
  by_cases q : ga h 2514 13 = 0
  · exact ⟨0, 1, fun w => absurd q w, by decide +kernel, by decide, by decide +kernel⟩
  · obtain ⟨L, VL, L0, L1, _⟩ := (j.2.1 (j.2.2 q).1).1
    obtain ⟨W, VW, W1⟩ := (j.2.2 q).2
    exact ⟨W, L, fun _ => ⟨VW, VL⟩, W1, L0, L1⟩
theorem WL.ch {h h' : MH} {W L : Int} {T : List Int} (w : WL h W L) (c : Ch 140 2515 2516 T h h') (n : 16 ∉ T ∧ 14 ∉ T) : WL h' W L := ⟨fun q => by
  rw [c.1.ga (d := 2514) (by decide)] at q
  have a := w.1 q
  exact ⟨a.1.keep (by decide) c (by decide) n.1, a.2.keep (by decide) c (by decide) n.2⟩, w.2⟩
/-- the shares' common lower part, but for 100 -/
def cE (r : Rat) (L D : Int) : Rat := (((r.den : Int) : Rat)) * ((L : Rat) * (D : Rat))
/-- a share p / q -/
def Tq (E : Rat) (p q : Int) : Prop := (p.natAbs : Int) < PW 30 ∧ 0 < q ∧ q < PW 30 ∧ isZ (E * Rat.divInt p q) ∧ ab (E * Rat.divInt p q) ≤ ((PW 59 : Int) : Rat)
theorem PW_mul3 {x y z : Int} {a b c k : Nat} (e : a + b + c = k) (hx : (x.natAbs : Int) < PW a) (hy : (y.natAbs : Int) < PW b) (hz : (z.natAbs : Int) < PW c) : ((x * y * z).natAbs : Int) < PW k := e ▸ PW_mul (PW_mul hx hy) hz
theorem ab_lt {z : Int} {k n : Nat} (h : (z.natAbs : Int) < PW k) (w : k ≤ n) : ab (z : Rat) ≤ ((PW n : Int) : Rat) := by
  rw [ab_int]
  have := PW_le w
  exact Rat.intCast_le_intCast.mpr (by omega)
theorem rat_ne {q : Int} (h : 0 < q) : (q : Rat) ≠ 0 := fun w => by
  have := Rat.intCast_eq_zero_iff.mp w
  omega
theorem nd_mul (r : Rat) : (((r.den : Int) : Rat)) * r = (r.num : Rat) := by
  have d := r.den_pos
  have e := rat_nd r
  have q := rat_ne (q := (r.den : Int)) (by omega)
  have e2 : r = (r.num : Rat) / ((r.den : Int) : Rat) := by
    rw [← Rat.divInt_eq_div, e]
  have e3 := Rat.div_mul_cancel (a := (r.num : Rat)) q
  rw [← e2] at e3
  rw [Rat.mul_comm]
  exact e3
theorem Tq.area {r : Rat} {L D : Int} (s : SzQ 29 r) (L0 : 0 < L) (L1 : L < PW 11) (D0 : 1 ≤ D ∧ D ≤ 1000000000000) : Tq (cE r L D) r.num (r.den : Int) := by
  have d := r.den_pos
  have p2 := pw2 (y := D) ⟨by omega, by omega⟩
  have m := PW_mul3 (k := 42) rfl s.1 (y := L) (b := 11) (by omega) p2
  have e : cE r L D * r = ((r.num * L * D : Int) : Rat) := by
    unfold cE
    have q := nd_mul r
    rw [Rat.intCast_mul, Rat.intCast_mul, ← q]
    grind
  refine ⟨PW_up s.1 (by decide), by omega, ?_, ?_, ?_⟩
  · have := s.2
    have w := PW_le (show 29 ≤ 30 by decide)
    omega
  · rw [rat_nd, e]
    exact isZ_int _
  · rw [rat_nd, e]
    exact ab_lt m (by decide)
theorem Tq.frac {r : Rat} {W L U D : Int} {q : Int} (s : SzQ 29 r) (W1 : (W.natAbs : Int) < PW 28) (L0 : 0 < L) (L1 : L < PW 11) (D0 : 1 ≤ D ∧ D ≤ 1000000000000) (U0 : 0 ≤ U ∧ U ≤ 4000000000000) (h : q = L * D) : Tq (cE r L D) (W * U) q ∧ Tq (cE r L D) W L := by
  have d := r.den_pos
  have pD := pw2 (y := D) ⟨by omega, by omega⟩
  have pU := pw2 (y := U) ⟨by omega, by omega⟩
  have pL : (L.natAbs : Int) < PW 11 := by omega
  have q0 : 0 < q := by
    rw [h]
    exact Int.mul_pos L0 (by omega)
  have mq := PW_mk (k := 13) rfl pL pD
  have qn := rat_ne q0
  have ln := rat_ne L0
  have e1 : cE r L D * Rat.divInt (W * U) q = (((r.den : Int) * W * U : Int) : Rat) := by
    unfold cE
    rw [Rat.divInt_eq_div, Rat.div_def]
    have z : (q : Rat) = (L : Rat) * (D : Rat) := by rw [h, Rat.intCast_mul]
    have i := Rat.mul_inv_cancel _ qn
    rw [Rat.intCast_mul, Rat.intCast_mul, Rat.intCast_mul]
    rw [← z]
    generalize (q : Rat)⁻¹ = y at i
    have : ((r.den : Int) : Rat) * (q : Rat) * ((W : Rat) * (U : Rat) * y) = ((r.den : Int) : Rat) * (W : Rat) * (U : Rat) * ((q : Rat) * y) := by grind
    rw [this, i, Rat.mul_one]
  have e2 : cE r L D * Rat.divInt W L = (((r.den : Int) * W * D : Int) : Rat) := by
    unfold cE
    rw [Rat.divInt_eq_div, Rat.div_def]
    have i := Rat.mul_inv_cancel _ ln
    rw [Rat.intCast_mul, Rat.intCast_mul]
    generalize (L : Rat)⁻¹ = y at i
    have : ((r.den : Int) : Rat) * ((L : Rat) * (D : Rat)) * ((W : Rat) * y) = ((r.den : Int) : Rat) * (W : Rat) * (D : Rat) * ((L : Rat) * y) := by grind
    rw [this, i, Rat.mul_one]
  have m1 := PW_mul3 (k := 59) rfl s.2 W1 pU
  have m2 := PW_mul3 (k := 59) rfl s.2 W1 pD
  refine ⟨⟨PW_mk rfl W1 pU, q0, ?_, ?_, ?_⟩, ⟨PW_up W1 (by decide), L0, ?_, ?_, ?_⟩⟩
  · have w := PW_le (show 13 ≤ 30 by decide)
    rw [← h] at mq
    omega
  · rw [e1]
    exact isZ_int _
  · rw [e1]
    exact ab_lt m1 (by decide)
  · have w := PW_le (show 11 ≤ 30 by decide)
    omega
  · rw [e2]
    exact isZ_int _
  · rw [e2]
    exact ab_lt m2 (by decide)
theorem Tq.zero (E : Rat) : Tq E 0 1 := by
  have z : Rat.divInt 0 1 = 0 := Rat.zero_divInt 1
  refine ⟨by decide +kernel, by decide, by decide +kernel, ?_, ?_⟩
  · rw [z, Rat.mul_zero]
    exact isZ_zero
  · rw [z, Rat.mul_zero, ab_pos Rat.le_refl]
    decide +kernel
/-- the sum of so many shares -/
def Cs (E : Rat) (i : Nat) (r : Rat) : Prop := isZ (100 * E * r) ∧ ab (100 * E * r) ≤ (i : Rat) * ((PW 61 : Int) : Rat)
theorem Cs.zero (E : Rat) : Cs E 0 0 := by
  unfold Cs
  rw [Rat.mul_zero, ab_pos Rat.le_refl]
  exact ⟨isZ_zero, by decide +kernel⟩
theorem Cs.add {E r : Rat} {i : Nat} {p q c : Int} (a : Cs E i r) (t : Tq E p q) (hc : (c.natAbs : Int) < PW 2) : Cs E (i + 1) (r + Rat.divInt (p * c) (q * 100)) := by
  have qn := rat_ne t.2.1
  have e : 100 * E * Rat.divInt (p * c) (q * 100) = (c : Rat) * (E * Rat.divInt p q) := by
    rw [Rat.divInt_eq_div, Rat.divInt_eq_div, Rat.div_def, Rat.div_def, Rat.intCast_mul, Rat.intCast_mul, Rat.inv_mul_rev]
    have h : (((100 : Int) : Rat))⁻¹ * 100 = 1 := by decide +kernel
    generalize (((100 : Int) : Rat))⁻¹ = y at h
    generalize (q : Rat)⁻¹ = w
    have : 100 * E * ((p : Rat) * (c : Rat) * (y * w)) = (y * 100) * ((c : Rat) * (E * ((p : Rat) * w))) := by grind
    rw [this, h, Rat.one_mul]
  have e2 : 100 * E * (r + Rat.divInt (p * c) (q * 100)) = 100 * E * r + (c : Rat) * (E * Rat.divInt p q) := by
    rw [← e]
    grind
  have n := ab_add (100 * E * r) ((c : Rat) * (E * Rat.divInt p q))
  have m := mul_le_mul2 (ab_nn (c : Rat)) (ab_lt hc (Nat.le_refl 2)) (ab_nn _) t.2.2.2.2
  have k : ((PW 2 : Int) : Rat) * ((PW 59 : Int) : Rat) = ((PW 61 : Int) : Rat) := by decide +kernel
  rw [k] at m
  have e3 : ((i + 1 : Nat) : Rat) = (i : Rat) + 1 := by
    rw [Rat.natCast_add]
    rfl
  unfold Cs
  rw [e2, e3]
  refine ⟨a.1.add ((isZ_int c).mul t.2.2.2.1), ?_⟩
  have a2 := a.2
  rw [ab_mul (c : Rat)] at n
  generalize ab (100 * E * r) = u at n a2
  generalize ab (c : Rat) * ab (E * Rat.divInt p q) = v at n m
  generalize ab (100 * E * r + (c : Rat) * (E * Rat.divInt p q)) = w at n
  generalize ((PW 61 : Int) : Rat) = P at a2 m
  clear k e e2 e3 qn t hc a
  grind
theorem Cs.sz {r x : Rat} {L D : Int} {i : Nat} (a : Cs (cE r L D) i x) (s : SzQ 29 r) (L0 : 0 < L) (L1 : L < PW 11) (D0 : 1 ≤ D ∧ D ≤ 1000000000000) (hi : i ≤ 6) : SzQ 62 x := by
  have d := r.den_pos
  have p2 := pw2 (y := D) ⟨by omega, by omega⟩
  have m := PW_mul3 (k := 42) rfl s.2 (y := L) (b := 11) (by omega) p2
  have m2 := PW_mk (k := 43) rfl (pw1 (y := 100) (by decide)) m
  have e : 100 * cE r L D = ((100 * ((r.den : Int) * L * D) : Int) : Rat) := by
    unfold cE
    rw [Rat.intCast_mul, Rat.intCast_mul, Rat.intCast_mul]
    have : ((100 : Int) : Rat) = 100 := rfl
    rw [this]
    grind
  have i1 : (i : Rat) ≤ ((6 : Nat) : Rat) := Rat.natCast_le_natCast.mpr hi
  have i2 : ((6 : Nat) : Rat) = 6 := rfl
  rw [i2] at i1
  have k1 : 6 * ((PW 61 : Int) : Rat) < ((PW 62 : Int) : Rat) := by decide +kernel
  have k2 : ((PW 43 : Int) : Rat) < ((PW 62 : Int) : Rat) := by decide +kernel
  have k3 : (0 : Rat) ≤ ((PW 61 : Int) : Rat) := by decide +kernel
  have a2 := a.2
  have mm := Rat.mul_le_mul_of_nonneg_right i1 k3
  have pos : 0 < (r.den : Int) * L * D := Int.mul_pos (Int.mul_pos (by omega) L0) (by omega)
  refine sz_of (d := 100 * cE r L D) (by rw [e]; exact isZ_int _) (by rw [e]; exact rat_ne (by omega)) a.1 ?_ (by grind)
  rw [e]
  have := ab_lt m2 (Nat.le_refl 43)
  grind
theorem sz_term {p q c : Int} (hp : (p.natAbs : Int) < PW 30) (q0 : 0 < q) (q1 : q < PW 30) (hc : (c.natAbs : Int) < PW 2) : SzQ 32 (Rat.divInt (p * c) (q * 100)) := by
  have a := PW_mk (k := 32) rfl hp hc
  have b := PW_mk (x := q) (m := 30) (k := 31) rfl (by omega) (pw1 (y := 100) (by decide))
  have s := divInt_sz (p := p * c) (q := q * 100) (by omega)
  have w := PW_le (show 31 ≤ 32 by decide)
  exact ⟨by omega, by omega⟩
theorem pm_r {a b : Int} (ha : -9999 ≤ a ∧ a ≤ 9999) (hb : -9999 ≤ b ∧ b ≤ 9999) : -99980001 ≤ a * b ∧ a * b ≤ 99980001 := by
  have e : ((a * b).natAbs : Int) = (a.natAbs : Int) * (b.natAbs : Int) := by rw [Int.natAbs_mul, Int.natCast_mul]
  have m := mul_b (a := (a.natAbs : Int)) (b := (b.natAbs : Int)) (A := 9999) (B := 9999) (by omega) (by omega)
  omega
/-- in least terms it is the same share -/
theorem Tq.red {E : Rat} {p q : Int} (t : Tq E p q) : Tq E (Rat.divInt p q).num ((Rat.divInt p q).den : Int) := by
  have s := divInt_sz (p := p) t.2.1
  have d := (Rat.divInt p q).den_pos
  have t1 := t.1
  have t2 := t.2.2.1
  have t3 := t.2.1
  refine ⟨by omega, by omega, by omega, ?_, ?_⟩
  · rw [rat_nd]
    exact t.2.2.2.1
  · rw [rat_nd]
    exact t.2.2.2.2
theorem ar_n {h : MH} {cn : Int} (sn : S19 h cn) : ∀ n : Nat, (n : Int) ≤ cn - 1 ∨ n = 0 → Ad n (arQ (ga h 2517) (ga h 2518) (ga h 2519) n)
  | 0, _ => Ad.zero
  | n + 1, w => by
    have a := ar_n sn n (by omega)
    have x := sn.1.2.2.1 n (by omega) (by omega)
    have y := sn.1.2.2.1 (n + 1) (by omega) (by omega)
    have z := sn.1.2.2.2 n (n + 1) (by omega) (by omega) (by omega)
    have p := pc_b (ln := ga h 2517 (n + 1) - ga h 2517 n) (by omega) x.2.1 x.2.2 y.2.1 y.2.2
    exact a.add p.1 p.2.1.1 p.2.2
theorem ar_sz {h : MH} {cn : Int} (sn : S19 h cn) : SzQ 29 (arQ (ga h 2517) (ga h 2518) (ga h 2519) (cn - 1).toNat) := (ar_n sn _ (by omega)).sz (by have := sn.1.2.1; omega)
