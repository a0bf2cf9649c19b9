/-! a callee that fits its caller -/
def fitB (K K' : mK) : Bool := Nat.ble (K'.2.2.2.2.2.1 + 1) K.2.2.2.2.2.1 && (Nat.ble (8 + (K'.2.2.2.1 + 11) + K'.2.2.2.2.2.2) K.2.2.2.2.2.2 && (Nat.beq K.1 1 || !(Nat.beq K'.1 1)))
theorem fitB_of {K K' : mK} (h : fitB K K' = true) : mFit K K' ∧ (K.1 ≠ 1 → K'.1 ≠ 1) := by
  unfold fitB at h
  rw [Bool.and_eq_true, Bool.and_eq_true, Bool.or_eq_true] at h
  obtain ⟨h1, h2, h3⟩ := h
  refine ⟨⟨Nat.le_of_ble_eq_true h1, Nat.le_of_ble_eq_true h2⟩, fun n => ?_⟩
  rcases h3 with h3 | h3
  · exact absurd (Nat.eq_of_beq_eq_true h3) n
  · intro e
    rw [e] at h3
    cases h3
theorem m_ishrX (x y : Int32) : (x >>> y).toInt = x.toInt >>> (y.toBitVec.smod 32).toNat := by
  show (x.toBitVec.sshiftRight' (y.toBitVec.smod 32)).toInt = _
  rw [BitVec.toInt_sshiftRight']
  rfl
theorem m_lshrX (x y : Int64) : (x >>> y).toInt = x.toInt >>> (y.toBitVec.smod 64).toNat := by
  show (x.toBitVec.sshiftRight' (y.toBitVec.smod 64)).toInt = _
  rw [BitVec.toInt_sshiftRight']
  rfl
set_option maxRecDepth 100000 in
theorem mtab_frB : mtab.all (fun q => Nat.ble q.1.2.2.2.2.2.1 999) = true := by decide +kernel
theorem mtab_fr {q : MR} (h : q ∈ mtab) : q.1.2.2.2.2.2.1 < 1000 := Nat.lt_succ_of_le (Nat.le_of_ble_eq_true (List.all_eq_true.mp mtab_frB q h))
