/-! rules: bits, what is known of the result -/
theorem m_i32 (z : Int32) : -2147483648 ≤ z.toInt ∧ z.toInt ≤ 2147483647 := by
  have h1 := z.le_toInt; have h2 := z.toInt_lt; omega
theorem m_i64 (z : Int64) : -9223372036854775808 ≤ z.toInt ∧ z.toInt ≤ 9223372036854775807 := by
  have h1 := z.le_toInt; have h2 := z.toInt_lt; omega
theorem m_bvand {n : Nat} (x y : BitVec n) (hy : y.msb = false) : 0 ≤ (x &&& y).toInt ∧ (x &&& y).toInt ≤ y.toInt := by
  have hz : (x &&& y).msb = false := by rw [BitVec.msb_and, hy, Bool.and_false]
  rw [BitVec.toInt_eq_toNat_of_msb hz, BitVec.toInt_eq_toNat_of_msb hy, BitVec.toNat_and]
  have := @Nat.and_le_right x.toNat y.toNat
  omega
theorem m_iandB {x y : Int} {b : Int} (h : 0 ≤ y) (h2 : y ≤ b) (hb : b ≤ 2147483647) : 0 ≤ (Int32.ofInt x &&& Int32.ofInt y).toInt ∧ (Int32.ofInt x &&& Int32.ofInt y).toInt ≤ b := by
  have e : (Int32.ofInt y).toInt = y := Int32.toInt_ofInt_of_le (by omega) (by omega)
  have hm : (Int32.ofInt y).toBitVec.msb = false := by
    rw [BitVec.msb_eq_toInt]
    exact decide_eq_false (by show ¬ (Int32.ofInt y).toInt < 0; omega)
  have := m_bvand (Int32.ofInt x).toBitVec (Int32.ofInt y).toBitVec hm
  have e2 : (Int32.ofInt x &&& Int32.ofInt y).toInt = ((Int32.ofInt x).toBitVec &&& (Int32.ofInt y).toBitVec).toInt := by
    rw [← Int32.toBitVec_and]; rfl
  have e3 : (Int32.ofInt y).toBitVec.toInt = y := e
  omega
theorem m_landB {x y : Int} {b : Int} (h : 0 ≤ y) (h2 : y ≤ b) (hb : b ≤ 9223372036854775807) : 0 ≤ (Int64.ofInt x &&& Int64.ofInt y).toInt ∧ (Int64.ofInt x &&& Int64.ofInt y).toInt ≤ b := by
  have e : (Int64.ofInt y).toInt = y := Int64.toInt_ofInt_of_le (by omega) (by omega)
  have hm : (Int64.ofInt y).toBitVec.msb = false := by
    rw [BitVec.msb_eq_toInt]
    exact decide_eq_false (by show ¬ (Int64.ofInt y).toInt < 0; omega)
  have := m_bvand (Int64.ofInt x).toBitVec (Int64.ofInt y).toBitVec hm
  have e2 : (Int64.ofInt x &&& Int64.ofInt y).toInt = ((Int64.ofInt x).toBitVec &&& (Int64.ofInt y).toBitVec).toInt := by
    rw [← Int64.toBitVec_and]; rfl
  have e3 : (Int64.ofInt y).toBitVec.toInt = y := e
  omega
theorem m_ishl1 : ∀ y : Nat, y < 31 → (Int32.ofInt 1 <<< (Int32.ofInt (y : Int) &&& 31)).toInt = (2 : Int) ^ y := by decide +kernel
theorem m_iandB' {x y : Int} {b : Int} (h : 0 ≤ x) (h2 : x ≤ b) (hb : b ≤ 2147483647) : 0 ≤ (Int32.ofInt x &&& Int32.ofInt y).toInt ∧ (Int32.ofInt x &&& Int32.ofInt y).toInt ≤ b := by
  rw [Int32.and_comm]; exact m_iandB h h2 hb
theorem m_landB' {x y : Int} {b : Int} (h : 0 ≤ x) (h2 : x ≤ b) (hb : b ≤ 9223372036854775807) : 0 ≤ (Int64.ofInt x &&& Int64.ofInt y).toInt ∧ (Int64.ofInt x &&& Int64.ofInt y).toInt ≤ b := by
  rw [Int64.and_comm]; exact m_landB h h2 hb
theorem m_ishl1B {y : Int} {a b : Nat} (h1 : (a : Int) ≤ y) (h2 : y ≤ b) (hb : b ≤ 30) : (2 : Int) ^ a ≤ (Int32.ofInt 1 <<< (Int32.ofInt y &&& 31)).toInt ∧ (Int32.ofInt 1 <<< (Int32.ofInt y &&& 31)).toInt ≤ (2 : Int) ^ b := by
  obtain ⟨n, rfl⟩ := Int.eq_ofNat_of_zero_le (show 0 ≤ y by omega)
  have e := m_ishl1 n (by omega)
  have p1 : 2 ^ a ≤ 2 ^ n := Nat.pow_le_pow_right (by decide) (by omega)
  have p2 : 2 ^ n ≤ 2 ^ b := Nat.pow_le_pow_right (by decide) (by omega)
  rw [e]
  exact ⟨by exact_mod_cast p1, by exact_mod_cast p2⟩
theorem m_iorB {x y : Int} (k : Nat) (hk : k ≤ 31) (h : 0 ≤ x ∧ x < 2 ^ k) (h2 : 0 ≤ y ∧ y < 2 ^ k) : 0 ≤ (Int32.ofInt x ||| Int32.ofInt y).toInt ∧ (Int32.ofInt x ||| Int32.ofInt y).toInt < 2 ^ k := by
  obtain ⟨n, rfl⟩ := Int.eq_ofNat_of_zero_le h.1
  obtain ⟨m, rfl⟩ := Int.eq_ofNat_of_zero_le h2.1
  have hn : n < 2 ^ k := by have := h.2; exact_mod_cast this
  have hm : m < 2 ^ k := by have := h2.2; exact_mod_cast this
  have ho : n ||| m < 2 ^ k := Nat.or_lt_two_pow hn hm
  have hp : 2 ^ k ≤ 2 ^ 31 := Nat.pow_le_pow_right (by decide) hk
  have e : (Int32.ofInt (n : Int) ||| Int32.ofInt (m : Int)) = Int32.ofInt ((n ||| m : Nat) : Int) := by
    rw [Int32.ofInt_eq_ofNat, Int32.ofInt_eq_ofNat, Int32.ofInt_eq_ofNat]
    refine Int32.toBitVec_inj.mp ?_
    rw [Int32.toBitVec_or]
    exact (BitVec.ofNat_or (w := 32) (x := n) (y := m)).symm
  rw [e, Int32.toInt_ofInt_of_le (by omega) (by omega)]
  exact ⟨by omega, by exact_mod_cast ho⟩
