/-! numbers of the machine, as whole numbers -/
theorem mI_bm (z : Int) : -2147483648 ≤ z.bmod 4294967296 ∧ z.bmod 4294967296 ≤ 2147483647 := by
  have h1 := Int.le_bmod (x := z) (m := 4294967296) (by decide)
  have h2 := Int.bmod_lt (x := z) (m := 4294967296) (by decide)
  omega
theorem mL_bm (z : Int) : -9223372036854775808 ≤ z.bmod 18446744073709551616 ∧ z.bmod 18446744073709551616 ≤ 9223372036854775807 := by
  have h1 := Int.le_bmod (x := z) (m := 18446744073709551616) (by decide)
  have h2 := Int.bmod_lt (x := z) (m := 18446744073709551616) (by decide)
  omega
theorem mI_bmo (z : Int) : Int32.ofInt (z.bmod 4294967296) = Int32.ofInt z := by
  rw [← Int32.toInt_inj, mI_toInt (mI_bm z), Int32.toInt_ofInt]
theorem mL_bmo (z : Int) : Int64.ofInt (z.bmod 18446744073709551616) = Int64.ofInt z := by
  rw [← Int64.toInt_inj, mL_toInt (mL_bm z), Int64.toInt_ofInt]
theorem mI_ne0 {y : Int} (o : -2147483648 ≤ y ∧ y ≤ 2147483647) (h : y ≠ 0) : ¬ Int32.ofInt y = 0 := fun q => h ((mI_inj o (by decide)).mp (q.trans (by decide : (0 : Int32) = Int32.ofInt 0)))
theorem mL_ne0 {y : Int} (o : -9223372036854775808 ≤ y ∧ y ≤ 9223372036854775807) (h : y ≠ 0) : ¬ Int64.ofInt y = 0 := fun q => h ((mL_inj o (by decide)).mp (q.trans (by decide : (0 : Int64) = Int64.ofInt 0)))
theorem mI_tdiv {x y : Int} (hx : -2147483648 ≤ x ∧ x ≤ 2147483647) (hy : -2147483648 ≤ y ∧ y ≤ 2147483647) : Int32.ofInt (x.tdiv y) = Int32.ofInt x / Int32.ofInt y := by
  rw [← Int32.toInt_inj, Int32.toInt_ofInt, Int32.toInt_div, mI_toInt hx, mI_toInt hy]
theorem mL_tdiv {x y : Int} (hx : -9223372036854775808 ≤ x ∧ x ≤ 9223372036854775807) (hy : -9223372036854775808 ≤ y ∧ y ≤ 9223372036854775807) : Int64.ofInt (x.tdiv y) = Int64.ofInt x / Int64.ofInt y := by
  rw [← Int64.toInt_inj, Int64.toInt_ofInt, Int64.toInt_div, mL_toInt hx, mL_toInt hy]
theorem mI_tmod {x y : Int} (hx : -2147483648 ≤ x ∧ x ≤ 2147483647) (hy : -2147483648 ≤ y ∧ y ≤ 2147483647) : Int32.ofInt (x.tmod y) = Int32.ofInt x - Int32.ofInt x / Int32.ofInt y * Int32.ofInt y := by
  rw [← mI_tdiv hx hy, ← Int32.ofInt_mul, ← Int32.ofInt_sub, Int.tmod_def, Int.mul_comm y]
theorem mL_tmod {x y : Int} (hx : -9223372036854775808 ≤ x ∧ x ≤ 9223372036854775807) (hy : -9223372036854775808 ≤ y ∧ y ≤ 9223372036854775807) : Int64.ofInt (x.tmod y) = Int64.ofInt x - Int64.ofInt x / Int64.ofInt y * Int64.ofInt y := by
  rw [← mL_tdiv hx hy, ← Int64.ofInt_mul, ← Int64.ofInt_sub, Int.tmod_def, Int.mul_comm y]
theorem m_tmod_abs (x y : Int) : -(x.natAbs : Int) ≤ x.tmod y ∧ x.tmod y ≤ (x.natAbs : Int) := by
  have h1 : (x.tmod y).natAbs ≤ x.natAbs := by
    rw [Int.natAbs_tmod]
    exact Nat.mod_le _ _
  omega
theorem mI_tmr {x y : Int} (hx : -2147483648 ≤ x ∧ x ≤ 2147483647) : -2147483648 ≤ x.tmod y ∧ x.tmod y ≤ 2147483647 := by
  have h1 := m_tmod_abs x y
  by_cases h : 0 ≤ x
  · omega
  · have h2 : x.tmod y ≤ 0 := by
      have h3 : 0 ≤ (-x).tmod y := Int.tmod_nonneg y (by omega)
      rw [Int.neg_tmod] at h3
      omega
    omega
theorem mL_tmr {x y : Int} (hx : -9223372036854775808 ≤ x ∧ x ≤ 9223372036854775807) : -9223372036854775808 ≤ x.tmod y ∧ x.tmod y ≤ 9223372036854775807 := by
  have h1 := m_tmod_abs x y
  by_cases h : 0 ≤ x
  · omega
  · have h2 : x.tmod y ≤ 0 := by
      have h3 : 0 ≤ (-x).tmod y := Int.tmod_nonneg y (by omega)
      rw [Int.neg_tmod] at h3
      omega
    omega
theorem mI_L {z : Int} (h : -2147483648 ≤ z ∧ z ≤ 2147483647) : -9223372036854775808 ≤ z ∧ z ≤ 9223372036854775807 := by omega
theorem mI_8 {z : Int} (h : -128 ≤ z ∧ z ≤ 127) : -2147483648 ≤ z ∧ z ≤ 2147483647 := by omega
theorem mI_16 {z : Int} (h : -32768 ≤ z ∧ z ≤ 32767) : -2147483648 ≤ z ∧ z ≤ 2147483647 := by omega
theorem mI_i2l {z : Int} (h : -2147483648 ≤ z ∧ z ≤ 2147483647) : (Int32.ofInt z).toInt64 = Int64.ofInt z := Int32.toInt64_ofInt h.1 h.2
theorem mI_bip {z : Int} (h : -128 ≤ z ∧ z ≤ 127) : (Int8.ofInt z).toInt32 = Int32.ofInt z := Int8.toInt32_ofInt h.1 h.2
theorem mI_sip {z : Int} (h : -32768 ≤ z ∧ z ≤ 32767) : (Int16.ofInt z).toInt32 = Int32.ofInt z := Int16.toInt32_ofInt h.1 h.2
theorem mI_65536 (z : Int) : -2147483648 ≤ z % 65536 ∧ z % 65536 ≤ 2147483647 := by omega
theorem mI_i2cW {z : Int} (h : -2147483648 ≤ z ∧ z ≤ 2147483647) : ((Int32.ofInt z).toUInt32 % 65536).toInt32 = Int32.ofInt (z % 65536) := by
  rw [lg_i2c_nf, ← Int32.toInt_inj, mI_toInt (mI_65536 z), lg_i2c_toInt, mI_toInt h]
  rfl
theorem mI_i2c {z : Int} (h0 : 0 ≤ z) (h1 : z < 65536) : ((Int32.ofInt z).toUInt32 % 65536).toInt32 = Int32.ofInt z := by
  rw [mI_i2cW (by omega), Int.emod_eq_of_lt h0 h1]
theorem mI_i2b {z : Int} (h0 : -128 ≤ z) (h1 : z ≤ 127) : (Int32.ofInt z).toInt8.toInt32 = Int32.ofInt z := by
  rw [Int32.toInt8_ofInt, Int8.toInt32_ofInt h0 h1]
theorem mI_eq {x y : Int} (hx : -2147483648 ≤ x ∧ x ≤ 2147483647) (hy : -2147483648 ≤ y ∧ y ≤ 2147483647) : Int32.ofInt x = Int32.ofInt y ↔ x = y := mI_inj hx hy
theorem mI_ne {x y : Int} (hx : -2147483648 ≤ x ∧ x ≤ 2147483647) (hy : -2147483648 ≤ y ∧ y ≤ 2147483647) : ¬ Int32.ofInt x = Int32.ofInt y ↔ x ≠ y := not_congr (mI_inj hx hy)
theorem mI_ge {x y : Int} (hx : -2147483648 ≤ x ∧ x ≤ 2147483647) (hy : -2147483648 ≤ y ∧ y ≤ 2147483647) : Int32.ofInt y ≤ Int32.ofInt x ↔ y ≤ x := mI_le hy hx
theorem mI_gt {x y : Int} (hx : -2147483648 ≤ x ∧ x ≤ 2147483647) (hy : -2147483648 ≤ y ∧ y ≤ 2147483647) : Int32.ofInt y < Int32.ofInt x ↔ y < x := mI_lt hy hx
theorem mI_z : (0 : Int32) = Int32.ofInt 0 := by decide
theorem mI_zr : -2147483648 ≤ (0 : Int) ∧ (0 : Int) ≤ 2147483647 := by decide
theorem mI_eq0 {x : Int} (hx : -2147483648 ≤ x ∧ x ≤ 2147483647) : Int32.ofInt x = 0 ↔ x = 0 := by rw [mI_z]; exact mI_inj hx mI_zr
theorem mI_neq0 {x : Int} (hx : -2147483648 ≤ x ∧ x ≤ 2147483647) : ¬ Int32.ofInt x = 0 ↔ x ≠ 0 := not_congr (mI_eq0 hx)
theorem mI_lt0 {x : Int} (hx : -2147483648 ≤ x ∧ x ≤ 2147483647) : Int32.ofInt x < 0 ↔ x < 0 := by rw [mI_z]; exact mI_lt hx mI_zr
theorem mI_ge0 {x : Int} (hx : -2147483648 ≤ x ∧ x ≤ 2147483647) : 0 ≤ Int32.ofInt x ↔ 0 ≤ x := by rw [mI_z]; exact mI_le mI_zr hx
theorem mI_gt0 {x : Int} (hx : -2147483648 ≤ x ∧ x ≤ 2147483647) : 0 < Int32.ofInt x ↔ 0 < x := by rw [mI_z]; exact mI_lt mI_zr hx
theorem mI_le0 {x : Int} (hx : -2147483648 ≤ x ∧ x ≤ 2147483647) : Int32.ofInt x ≤ 0 ↔ x ≤ 0 := by rw [mI_z]; exact mI_le hx mI_zr
