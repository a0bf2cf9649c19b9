/-! rules: division and bits, what is known of the result -/
theorem m_divB {x y z a b c d lo hi : Int} (hz : 0 ≤ z ∧ z ≤ x ∧ z * y ≤ x ∧ x < z * y + y) (h1 : a ≤ x ∧ x ≤ b) (h2 : c ≤ y ∧ y ≤ d) (hc : 0 < c ∧ 0 ≤ a ∧ lo = a / d ∧ hi = b / c) : lo ≤ z ∧ z ≤ hi := by
  obtain ⟨z1, z2, z3, z4⟩ := hz
  obtain ⟨hc0, ha, rfl, rfl⟩ := hc
  have e1 : z * c ≤ b := Int.le_trans (Int.le_trans (Int.mul_le_mul_of_nonneg_left h2.1 z1) z3) h1.2
  have e2 : a < (z + 1) * d := by
    have e3 : (z + 1) * y ≤ (z + 1) * d := Int.mul_le_mul_of_nonneg_left h2.2 (by omega)
    rw [Int.add_mul, Int.one_mul] at e3
    omega
  refine ⟨?_, (Int.le_ediv_iff_mul_le hc0).mpr e1⟩
  have e4 : a / d < z + 1 := Int.ediv_lt_of_lt_mul (by omega) e2
  omega
section MDV
variable {K : mK} {Qr : MO → MH → Prop} {mc ms pc : Nat} {L : List (Nat × MV)} {S : List MV} {h : MH}
theorem m_tdivP {x y : Int} (hx : 0 ≤ x) (hy : 0 < y) : 0 ≤ x.tdiv y ∧ x.tdiv y ≤ x ∧ x.tdiv y * y ≤ x ∧ x < x.tdiv y * y + y := by
  rw [Int.tdiv_eq_ediv_of_nonneg hx]
  have h1 := Int.ediv_nonneg hx (Int.le_of_lt hy)
  have h2 := Int.ediv_le_self y hx
  have h3 := Int.ediv_mul_le x (Int.ne_of_gt hy)
  have h4 := Int.lt_ediv_add_one_mul_self x hy
  rw [Int.add_mul, Int.one_mul] at h4
  exact ⟨h1, h2, h3, h4⟩
theorem m_tmodP {x y : Int} (hx : 0 ≤ x) (hy : 0 < y) : 0 ≤ x.tmod y ∧ x.tmod y < y ∧ x.tmod y ≤ x := by
  rw [Int.tmod_eq_emod_of_nonneg hx]
  refine ⟨Int.emod_nonneg x (Int.ne_of_gt hy), Int.emod_lt_of_pos x hy, ?_⟩
  have h1 := Int.emod_add_mul_ediv x y
  have h2 := Int.mul_nonneg (Int.le_of_lt hy) (Int.ediv_nonneg hx (Int.le_of_lt hy))
  omega
theorem m_tdivG {x y M : Int} (h1 : -M ≤ x) (h2 : x ≤ M) : -M ≤ x.tdiv y ∧ x.tdiv y ≤ M := by
  have h3 : (x.tdiv y).natAbs ≤ x.natAbs := by
    rw [Int.natAbs_tdiv]
    exact Nat.div_le_self _ _
  omega
theorem m_tmodG {x y M : Int} (hy : y ≠ 0) (h1 : -M ≤ y) (h2 : y ≤ M) : -M < x.tmod y ∧ x.tmod y < M := by
  have h3 : (x.tmod y).natAbs < y.natAbs := by
    rw [Int.natAbs_tmod]
    exact Nat.mod_lt _ (by omega)
  omega
theorem m_idivP (pc' : Nat) (hd : decode K.2.2.1 pc = .ok (.idiv, 1)) (hp : pc + 1 = pc') {x y : Int} (hx : 0 ≤ x) (hm : x ≤ 2147483647) (hy : 0 < y) (k : ∀ z : Int, (0 ≤ z ∧ z ≤ x ∧ z * y ≤ x ∧ x < z * y + y) → MW K Qr mc ms pc' L ((0, z) :: S) h) : MW K Qr mc ms pc L ((0, y) :: (0, x) :: S) h := by
  have b := m_tdivP hx hy
  exact m_idiv pc' hd hp (Int.ne_of_gt hy) (by omega) (k _ b)
theorem m_idivG (pc' : Nat) (hd : decode K.2.2.1 pc = .ok (.idiv, 1)) (hp : pc + 1 = pc') {x y : Int} (M : Int) (hM : M ≤ 2147483647) (h1 : -M ≤ x) (h2 : x ≤ M) (hy : y ≠ 0) (k : ∀ z : Int, (-M ≤ z ∧ z ≤ M) → MW K Qr mc ms pc' L ((0, z) :: S) h) : MW K Qr mc ms pc L ((0, y) :: (0, x) :: S) h := by
  have b := m_tdivG (y := y) h1 h2
  exact m_idiv pc' hd hp hy (by omega) (k _ b)
theorem m_iremP (pc' : Nat) (hd : decode K.2.2.1 pc = .ok (.irem, 1)) (hp : pc + 1 = pc') {x y : Int} (hx : 0 ≤ x) (hy : 0 < y) (k : ∀ z : Int, (0 ≤ z ∧ z < y ∧ z ≤ x) → MW K Qr mc ms pc' L ((0, z) :: S) h) : MW K Qr mc ms pc L ((0, y) :: (0, x) :: S) h :=
  m_irem pc' hd hp (Int.ne_of_gt hy) (k _ (m_tmodP hx hy))
theorem m_iremG (pc' : Nat) (hd : decode K.2.2.1 pc = .ok (.irem, 1)) (hp : pc + 1 = pc') {x y : Int} (M : Int) (hy : y ≠ 0) (h1 : -M ≤ y) (h2 : y ≤ M) (k : ∀ z : Int, (-M < z ∧ z < M) → MW K Qr mc ms pc' L ((0, z) :: S) h) : MW K Qr mc ms pc L ((0, y) :: (0, x) :: S) h :=
  m_irem pc' hd hp hy (k _ (m_tmodG hy h1 h2))
theorem m_ldivP (pc' : Nat) (hd : decode K.2.2.1 pc = .ok (.ldiv, 1)) (hp : pc + 1 = pc') {x y : Int} (hx : 0 ≤ x) (hm : x ≤ 9223372036854775807) (hy : 0 < y) (k : ∀ z : Int, (0 ≤ z ∧ z ≤ x ∧ z * y ≤ x ∧ x < z * y + y) → MW K Qr mc ms pc' L ((1, z) :: S) h) : MW K Qr mc ms pc L ((1, y) :: (1, x) :: S) h := by
  have b := m_tdivP hx hy
  exact m_ldiv pc' hd hp (Int.ne_of_gt hy) (by omega) (k _ b)
theorem m_ldivG (pc' : Nat) (hd : decode K.2.2.1 pc = .ok (.ldiv, 1)) (hp : pc + 1 = pc') {x y : Int} (M : Int) (hM : M ≤ 9223372036854775807) (h1 : -M ≤ x) (h2 : x ≤ M) (hy : y ≠ 0) (k : ∀ z : Int, (-M ≤ z ∧ z ≤ M) → MW K Qr mc ms pc' L ((1, z) :: S) h) : MW K Qr mc ms pc L ((1, y) :: (1, x) :: S) h := by
  have b := m_tdivG (y := y) h1 h2
  exact m_ldiv pc' hd hp hy (by omega) (k _ b)
theorem m_lremP (pc' : Nat) (hd : decode K.2.2.1 pc = .ok (.lrem, 1)) (hp : pc + 1 = pc') {x y : Int} (hx : 0 ≤ x) (hy : 0 < y) (k : ∀ z : Int, (0 ≤ z ∧ z < y ∧ z ≤ x) → MW K Qr mc ms pc' L ((1, z) :: S) h) : MW K Qr mc ms pc L ((1, y) :: (1, x) :: S) h :=
  m_lrem pc' hd hp (Int.ne_of_gt hy) (k _ (m_tmodP hx hy))
theorem m_lremG (pc' : Nat) (hd : decode K.2.2.1 pc = .ok (.lrem, 1)) (hp : pc + 1 = pc') {x y : Int} (M : Int) (hy : y ≠ 0) (h1 : -M ≤ y) (h2 : y ≤ M) (k : ∀ z : Int, (-M < z ∧ z < M) → MW K Qr mc ms pc' L ((1, z) :: S) h) : MW K Qr mc ms pc L ((1, y) :: (1, x) :: S) h :=
  m_lrem pc' hd hp hy (k _ (m_tmodG hy h1 h2))
end MDV
