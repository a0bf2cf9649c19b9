/-! the area above 0, lanes, cases -/
def pa (x : Int) : Int := if x < 0 then -x else x
theorem pa_b {x B : Int} (h : -B ≤ x ∧ x ≤ B) : 0 ≤ pa x ∧ pa x ≤ B := by
  unfold pa
  split <;> omega
def crQ (a b c d : Int) : Int := pa a * d + pa c * b
def pcU (ln a b c d : Int) : Int := if 0 < a ∧ c < 0 then ln * a * a * d else if a < 0 ∧ 0 < c then ln * c * c * b else if 0 < a ∨ 0 < c then ln * crQ a b c d else 0
def pcD (a b c d : Int) : Int := if 0 < a ∧ c < 0 then 2 * b * crQ a b c d else if a < 0 ∧ 0 < c then 2 * d * crQ a b c d else if 0 < a ∨ 0 < c then 2 * b * d else 1
theorem cr_b {a b c d : Int} (ha : -1000000 ≤ a ∧ a ≤ 1000000) (hb : 1 ≤ b ∧ b ≤ 1000) (hc : -1000000 ≤ c ∧ c ≤ 1000000) (hd : 1 ≤ d ∧ d ≤ 1000) : 0 ≤ crQ a b c d ∧ crQ a b c d ≤ 2000000000 ∧ (a ≠ 0 → pa a ≤ crQ a b c d ∧ pa a * d ≤ crQ a b c d ∧ 1 ≤ crQ a b c d) ∧ (c ≠ 0 → pa c * b ≤ crQ a b c d ∧ 1 ≤ crQ a b c d) ∧ crQ a b c d ≤ 2000000 * (b * d) := by
  have xa := pa_b ha
  have xc := pa_b hc
  have m1 := mul_b xa (show 0 ≤ d ∧ d ≤ 1000 by omega)
  have m2 := mul_b xc (show 0 ≤ b ∧ b ≤ 1000 by omega)
  have n1 : pa a * 1 ≤ pa a * d := Int.mul_le_mul_of_nonneg_left hd.1 xa.1
  have n2 : pa c * 1 ≤ pa c * b := Int.mul_le_mul_of_nonneg_left hb.1 xc.1
  have k1 : pa a * d ≤ 1000000 * d := Int.mul_le_mul_of_nonneg_right xa.2 (by omega)
  have k2 : pa c * b ≤ 1000000 * b := Int.mul_le_mul_of_nonneg_right xc.2 (by omega)
  have k3 : 1 * d ≤ b * d := Int.mul_le_mul_of_nonneg_right hb.1 (by omega)
  have k4 : b * 1 ≤ b * d := Int.mul_le_mul_of_nonneg_left hd.1 (by omega)
  have za : a ≠ 0 → 1 ≤ pa a := fun q => by
    unfold pa
    split <;> omega
  have zc : c ≠ 0 → 1 ≤ pa c := fun q => by
    unfold pa
    split <;> omega
  unfold crQ
  exact ⟨by omega, by omega, fun q => by have := za q; exact ⟨by omega, by omega, by omega⟩, fun q => by have := zc q; exact ⟨by omega, by omega⟩, by omega⟩
theorem pc_b {ln a b c d : Int} (hl : 1 ≤ ln ∧ ln ≤ 400) (ha : -1000000 ≤ a ∧ a ≤ 1000000) (hb : 1 ≤ b ∧ b ≤ 1000) (hc : -1000000 ≤ c ∧ c ≤ 1000000) (hd : 1 ≤ d ∧ d ≤ 1000) : (0 < pcD a b c d ∧ pcD a b c d ≤ 4000000000000) ∧ (0 ≤ pcU ln a b c d ∧ pcU ln a b c d ≤ 400000000000000000) ∧ pcU ln a b c d ≤ 400000000 * pcD a b c d := by
  have cr := cr_b ha hb hc hd
  have cr2 := mul_b (show 0 ≤ b ∧ b ≤ 1000 by omega) (show 0 ≤ crQ a b c d ∧ crQ a b c d ≤ 2000000000 from ⟨cr.1, cr.2.1⟩)
  have cr3 := mul_b (show 0 ≤ d ∧ d ≤ 1000 by omega) (show 0 ≤ crQ a b c d ∧ crQ a b c d ≤ 2000000000 from ⟨cr.1, cr.2.1⟩)
  have cr4 := mul_b (show 0 ≤ ln ∧ ln ≤ 400 by omega) (show 0 ≤ crQ a b c d ∧ crQ a b c d ≤ 2000000000 from ⟨cr.1, cr.2.1⟩)
  have bd := mul_b (show 0 ≤ b ∧ b ≤ 1000 by omega) (show 0 ≤ d ∧ d ≤ 1000 by omega)
  have e1 : 2 * b * crQ a b c d = 2 * (b * crQ a b c d) := Int.mul_assoc ..
  have e2 : 2 * d * crQ a b c d = 2 * (d * crQ a b c d) := Int.mul_assoc ..
  have e3 : 2 * b * d = 2 * (b * d) := Int.mul_assoc ..
  have key : ∀ x y z : Int, 0 < x → x ≤ 1000000 → 1 ≤ y → y ≤ 1000 → 1 ≤ z → z ≤ 1000 → x * y ≤ crQ a b c d → (0 ≤ ln * x * x * y ∧ ln * x * x * y ≤ 400000000000000000) ∧ ln * x * x * y ≤ 400000000 * (2 * z * crQ a b c d) ∧ 0 < 2 * z * crQ a b c d ∧ 2 * z * crQ a b c d ≤ 4000000000000 := fun x y z x0 x1 y0 y1 z0 z1 xc => by
    have f1 := mul_b (show 0 ≤ ln ∧ ln ≤ 400 by omega) (show 0 ≤ x ∧ x ≤ 1000000 by omega)
    have f2 := mul_b (show 0 ≤ x ∧ x ≤ 1000000 by omega) (show 0 ≤ y ∧ y ≤ 1000 by omega)
    have f3 := mul_b f1 f2
    have e4 : ln * x * x * y = ln * x * (x * y) := Int.mul_assoc ..
    have f4 : ln * x * (x * y) ≤ 400000000 * (x * y) := Int.mul_le_mul_of_nonneg_right (by omega) f2.1
    have f5 : 1 * crQ a b c d ≤ z * crQ a b c d := Int.mul_le_mul_of_nonneg_right z0 cr.1
    have f6 : z * crQ a b c d ≤ 1000 * crQ a b c d := Int.mul_le_mul_of_nonneg_right z1 cr.1
    have f7 : 2 * z * crQ a b c d = 2 * (z * crQ a b c d) := Int.mul_assoc ..
    have f8 : x * 1 ≤ x * y := Int.mul_le_mul_of_nonneg_left y0 (by omega)
    rw [e4, f7]
    exact ⟨⟨f3.1, by omega⟩, by omega, by omega, by omega⟩
  unfold pcU pcD
  by_cases q1 : 0 < a ∧ c < 0
  · have ea : pa a = a := if_neg (by omega)
    have k := key a d b q1.1 ha.2 hd.1 hd.2 hb.1 hb.2 (by have := (cr.2.2.1 (by omega)).2.1; rw [ea] at this; exact this)
    rw [if_pos q1, if_pos q1]
    exact ⟨k.2.2, k.1, k.2.1⟩
  · rw [if_neg q1, if_neg q1]
    by_cases q2 : a < 0 ∧ 0 < c
    · have ec : pa c = c := if_neg (by omega)
      have k := key c b d q2.2 hc.2 hb.1 hb.2 hd.1 hd.2 (by have := (cr.2.2.2.1 (by omega)).1; rw [ec] at this; exact this)
      rw [if_pos q2, if_pos q2]
      exact ⟨k.2.2, k.1, k.2.1⟩
    · rw [if_neg q2, if_neg q2]
      have p1 : 1 * d ≤ b * d := Int.mul_le_mul_of_nonneg_right hb.1 (by omega)
      have l1 : ln * crQ a b c d ≤ 400 * crQ a b c d := Int.mul_le_mul_of_nonneg_right hl.2 cr.1
      by_cases q3 : 0 < a ∨ 0 < c
      · rw [if_pos q3, if_pos q3, e3]
        have := cr.2.2.2.2
        exact ⟨⟨by omega, by omega⟩, ⟨cr4.1, by omega⟩, by omega⟩
      · rw [if_neg q3, if_neg q3]
        exact ⟨by decide, by decide, by decide⟩
def pcQ (P A B : Int → Int) (k : Int) : Rat := Rat.divInt (pcU (P (k + 1) - P k) (A k) (B k) (A (k + 1)) (B (k + 1))) (pcD (A k) (B k) (A (k + 1)) (B (k + 1)))
def arQ (P A B : Int → Int) (n : Nat) : Rat := sumN n fun j => pcQ P A B j
/-- an area has a lower part d -/
def Ad (n : Nat) (r : Rat) : Prop := ∃ d : Int, 0 < d ∧ d < PW (2 * n + 1) ∧ isZ ((d : Rat) * r) ∧ 0 ≤ r ∧ r ≤ 400000000 * (n : Rat)
theorem Ad.add {n : Nat} {r : Rat} {p q : Int} (a : Ad n r) (hq : 0 < q ∧ q ≤ 4000000000000) (hp : 0 ≤ p) (hpq : p ≤ 400000000 * q) : Ad (n + 1) (r + Rat.divInt p q) := by
  obtain ⟨d, d0, d1, dz, r0, r1⟩ := a
  have q0 : (0 : Rat) < q := Rat.intCast_pos.mpr hq.1
  have qn : (q : Rat) ≠ 0 := fun w => by
    rw [w] at q0
    exact Rat.lt_irrefl q0
  have qd : (q : Rat) * Rat.divInt p q = p := by rw [Rat.divInt_eq_div, Rat.mul_comm, Rat.div_mul_cancel qn]
  have f0 : 0 ≤ Rat.divInt p q := Rat.divInt_nonneg hp (by omega)
  have pr : (p : Rat) ≤ 400000000 * (q : Rat) := by
    have := Rat.intCast_le_intCast.mpr hpq
    rw [Rat.intCast_mul] at this
    exact this
  refine ⟨d * q, Int.mul_pos d0 hq.1, ?_, ?_, Rat.add_nonneg r0 f0, ?_⟩
  · have m := PW_mk (x := d) (y := q) (m := 2 * n + 1) (n := 2) (k := 2 * (n + 1) + 1) (by omega) (by omega) (by
      have e : PW 2 = 281474976710656 := by decide
      omega)
    have := Int.mul_pos d0 hq.1
    omega
  · have e : ((d * q : Int) : Rat) * (r + Rat.divInt p q) = (q : Rat) * ((d : Rat) * r) + (d : Rat) * ((q : Rat) * Rat.divInt p q) := by
      rw [Rat.intCast_mul]
      grind
    rw [e, qd]
    exact ((isZ_int q).mul dz).add ((isZ_int d).mul (isZ_int p))
  · have e2 : ((n + 1 : Nat) : Rat) = (n : Rat) + 1 := by
      rw [Rat.natCast_add]
      rfl
    have f1 : Rat.divInt p q ≤ 400000000 := by
      refine Rat.le_of_mul_le_mul_left (c := (q : Rat)) ?_ q0
      rw [qd]
      grind
    rw [e2]
    grind
theorem Ad.zero : Ad 0 0 := ⟨1, by decide, by decide, by rw [Rat.mul_zero]; exact isZ_zero, Rat.le_refl, by decide +kernel⟩
theorem Ad.sz {n : Nat} {r : Rat} (a : Ad n r) (h : n ≤ 13) : SzQ 29 r := by
  obtain ⟨d, d0, d1, dz, r0, r1⟩ := a
  have dp : (0 : Rat) < d := Rat.intCast_pos.mpr d0
  have P1 : PW (2 * n + 1) ≤ PW 27 := PW_le (by omega)
  have D : (d : Rat) < ((PW 27 : Int) : Rat) := Rat.intCast_lt_intCast.mpr (by omega)
  have n1 : (n : Rat) ≤ ((13 : Nat) : Rat) := Rat.natCast_le_natCast.mpr h
  have n2 : ((13 : Nat) : Rat) = 13 := rfl
  rw [n2] at n1
  have m := mul_le_mul2 (a := (d : Rat)) (b := ((PW 27 : Int) : Rat)) (c := r) (d := 5200000000) (by grind) (by grind) r0 (by grind)
  have p1 : ((PW 27 : Int) : Rat) < ((PW 29 : Int) : Rat) := by decide +kernel
  have p2 : ((PW 27 : Int) : Rat) * 5200000000 < ((PW 29 : Int) : Rat) := by decide +kernel
  refine sz_of (d := (d : Rat)) (isZ_int d) (fun w => by rw [w] at dp; exact Rat.lt_irrefl dp) dz ?_ ?_
  · rw [ab_pos (by grind)]
    grind
  · rw [ab_pos (Rat.mul_nonneg (by grind) r0)]
    grind
/-- so many lanes: the sum's parts -/
def lnP (A B : Int → Int) : Nat → Int × Int
  | 0 => (0, 1)
  | n + 1 => ((lnP A B n).1 * B n + A n * (lnP A B n).2, (lnP A B n).2 * B n)
theorem lnP_b {A B : Int → Int} : ∀ n : Nat, (∀ i : Int, 0 ≤ i → i < n → (0 ≤ A i ∧ A i ≤ 1000) ∧ (1 ≤ B i ∧ B i ≤ 1000)) → (1 ≤ (lnP A B n).2 ∧ (lnP A B n).2 ≤ p3k n) ∧ 0 ≤ (lnP A B n).1 ∧ (lnP A B n).1 ≤ (n : Int) * p3k n
  | 0, _ => (by decide : ((1 : Int) ≤ 1 ∧ (1 : Int) ≤ 1) ∧ (0 : Int) ≤ 0 ∧ (0 : Int) ≤ ((0 : Nat) : Int) * 1)
  | n + 1, h => by
    have a := lnP_b (A := A) (B := B) n fun i i0 i1 => h i i0 (by omega)
    have b := h n (by omega) (by omega)
    have p := (p3k_le (Nat.le_refl n)).1
    have m1 := mul_b (a := (lnP A B n).1) (b := B n) (A := (n : Int) * p3k n) (B := 1000) ⟨a.2.1, a.2.2⟩ (by omega)
    have m2 := mul_b (a := A n) (b := (lnP A B n).2) (A := 1000) (B := p3k n) b.1 ⟨by omega, a.1.2⟩
    have m3 := mul_b (a := (lnP A B n).2) (b := B n) (A := p3k n) (B := 1000) ⟨by omega, a.1.2⟩ (by omega)
    have m4 : 1 ≤ (lnP A B n).2 * B n := by
      have := Int.mul_pos (show 0 < (lnP A B n).2 by omega) (show 0 < B n by omega)
      omega
    have e : p3k (n + 1) = p3k n * 1000 := rfl
    show (1 ≤ (lnP A B n).2 * B n ∧ (lnP A B n).2 * B n ≤ p3k (n + 1)) ∧ 0 ≤ (lnP A B n).1 * B n + A n * (lnP A B n).2 ∧ (lnP A B n).1 * B n + A n * (lnP A B n).2 ≤ ((n + 1 : Nat) : Int) * p3k (n + 1)
    rw [e]
    have e2 : ((n + 1 : Nat) : Int) * (p3k n * 1000) = (n : Int) * p3k n * 1000 + 1000 * p3k n := by
      rw [Int.natCast_add, Int.add_mul]
      have : (n : Int) * (p3k n * 1000) = (n : Int) * p3k n * 1000 := (Int.mul_assoc ..).symm
      rw [this]
      omega
    rw [e2]
    exact ⟨⟨m4, m3.2⟩, by omega, by omega⟩
theorem lnP_4 {A B : Int → Int} {n : Nat} (hn : n ≤ 4) (h : ∀ i : Int, 0 ≤ i → i < n → (0 ≤ A i ∧ A i ≤ 1000) ∧ (1 ≤ B i ∧ B i ≤ 1000)) : (1 ≤ (lnP A B n).2 ∧ (lnP A B n).2 ≤ 1000000000000) ∧ 0 ≤ (lnP A B n).1 ∧ (lnP A B n).1 ≤ 4000000000000 := by
  have a := lnP_b n h
  have p := p3k_le (i := n) (j := 4) hn
  have e : p3k 4 = 1000000000000 := rfl
  have m := mul_b (a := (n : Int)) (b := p3k n) (A := 4) (B := p3k 4) (by omega) (by omega)
  omega
theorem pw2 {y : Int} (h : -281474976710656 < y ∧ y < 281474976710656) : (y.natAbs : Int) < PW 2 := by
  have e : PW 2 = 281474976710656 := by decide
  omega
theorem pw3 {y : Int} (h : -400000000000000000 ≤ y ∧ y ≤ 400000000000000000) : (y.natAbs : Int) < PW 3 := by
  have e : PW 3 = 4722366482869645213696 := by decide
  omega
theorem fr_sum {r : Rat} {p q : Int} (hq : 0 < q) : Rat.divInt (r.num * q + p * r.den) ((r.den : Int) * q) = r + Rat.divInt p q := by
  have d0 := r.den_pos
  have e := Rat.divInt_add_divInt r.num p (d₁ := (r.den : Int)) (d₂ := q) (by omega) (by omega)
  rw [rat_nd] at e
  exact e.symm
