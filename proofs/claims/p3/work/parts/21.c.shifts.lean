/-! shifts of intervals -/
theorem m_ishrX (x y : Int32) : (x >>> y).toInt = x.toInt >>> (y.toBitVec.smod 32).toNat := by
  show (x.toBitVec.sshiftRight' (y.toBitVec.smod 32)).toInt = _
  rw [BitVec.toInt_sshiftRight']
  rfl
theorem m_lshrX (x y : Int64) : (x >>> y).toInt = x.toInt >>> (y.toBitVec.smod 64).toNat := by
  show (x.toBitVec.sshiftRight' (y.toBitVec.smod 64)).toInt = _
  rw [BitVec.toInt_sshiftRight']
  rfl
theorem m_sh32 : ∀ s : Nat, s < 32 → ((Int32.ofInt (s : Int) &&& 31).toBitVec.smod 32).toNat = s := by decide +kernel
theorem m_sh64 : ∀ s : Nat, s < 64 → (((Int32.ofInt (s : Int)).toInt64 &&& 63).toBitVec.smod 64).toNat = s := by decide +kernel
theorem m_shrB {x a b : Int} (n : Nat) (h1 : a ≤ x) (h2 : x ≤ b) : a >>> n ≤ x >>> n ∧ x >>> n ≤ b >>> n := by
  rw [Int.shiftRight_eq_div_pow, Int.shiftRight_eq_div_pow, Int.shiftRight_eq_div_pow]
  have p : (0 : Int) < ((2 ^ n : Nat) : Int) := by exact_mod_cast Nat.pow_pos (by decide)
  exact ⟨Int.ediv_le_ediv p h1, Int.ediv_le_ediv p h2⟩
theorem m_shrN {x b : Int} (n : Nat) (h1 : 0 ≤ x) (h2 : x ≤ b) : 0 ≤ x >>> n ∧ x >>> n ≤ b := by
  rw [Int.shiftRight_eq_div_pow]
  have p : (0 : Int) < ((2 ^ n : Nat) : Int) := by exact_mod_cast Nat.pow_pos (by decide)
  exact ⟨Int.ediv_nonneg h1 (by omega), Int.le_trans (Int.ediv_le_self _ h1) h2⟩
def shW (t : Nat) : Int := if Nat.beq t 0 then 32 else 64
/-- to the right: t 0 int, 1 long -/
def aShr (t : Nat) (a b : Iv) : AR := if decide ((fT t).1 ≤ a.1) && decide (a.2.1 ≤ (fT t).2.1) then
    (if decide (b.1 = b.2.1) && (decide (0 ≤ b.1) && decide (b.1 < shW t)) then .inr ((a.1 >>> b.1.toNat, a.2.1 >>> b.1.toNat, 0), [])
    else if decide (0 ≤ a.1) then .inr ((0, a.2.1, 0), []) else .inr (fT t, []))
  else .inr (fT t, [])
def aShl (t : Nat) (a b : Iv) : AR := if decide (b.1 = b.2.1) && (decide (0 ≤ b.1) && (decide (b.1 < shW t) && (decide (0 ≤ a.1) && decide (a.2.1 * 2 ^ b.1.toNat ≤ (fT t).2.1)))) then .inr ((a.1 * 2 ^ b.1.toNat, a.2.1 * 2 ^ b.1.toNat, 0), [])
  else if decide (a.1 = 1) && (decide (a.2.1 = 1) && (decide (0 ≤ b.1) && (decide (b.2.1 ≤ 30) && Nat.beq t 0))) then .inr ((2 ^ b.1.toNat, 2 ^ b.2.1.toNat, 0), [])
  else .inr (fT t, [])
section AS
variable {T : Tc} {ρ : Nat → Int} {env : List Iv} {dc : Dc} {x y : Vl} {a b : Iv}
theorem aShrI_of (R : RelE T ρ env) (ha : ivOf env x = some a) (hb : ivOf env y = some b) : AROk T ρ env.length 0 ((Int32.ofInt (ρ x.2.1 + x.2.2) >>> (Int32.ofInt (ρ y.2.1 + y.2.2) &&& 31)).toInt) (aShr 0 a b) := by
  obtain ⟨ka1, ka2, -⟩ := ivOf_of R ha
  obtain ⟨kb1, kb2, -⟩ := ivOf_of R hb
  generalize ρ x.2.1 + x.2.2 = X at *
  generalize ρ y.2.1 + y.2.2 = Y at *
  have hf := fI_any (T := T) (Int32.ofInt X >>> (Int32.ofInt Y &&& 31))
  unfold aShr
  split
  · next q =>
    rw [Bool.and_eq_true] at q
    have q1 : -2147483648 ≤ a.1 := of_decide_eq_true q.1
    have q2 : a.2.1 ≤ 2147483647 := of_decide_eq_true q.2
    have e : (Int32.ofInt X).toInt = X := mI_toInt ⟨by omega, by omega⟩
    split
    · next z =>
      rw [Bool.and_eq_true, Bool.and_eq_true] at z
      have z1 := of_decide_eq_true z.1
      have z2 := of_decide_eq_true z.2.1
      have z3 : b.1 < 32 := of_decide_eq_true z.2.2
      have eY : Y = ((b.1.toNat : Nat) : Int) := by omega
      rw [m_ishrX, e, eY, m_sh32 _ (by omega)]
      have p := m_shrB b.1.toNat ka1 ka2
      exact ⟨⟨p.1, p.2, fun q => absurd rfl q⟩, DcOk.nil _ _⟩
    · split
      · next z =>
        have z := of_decide_eq_true z
        rw [m_ishrX, e]
        have p := m_shrN ((Int32.ofInt Y &&& 31).toBitVec.smod 32).toNat (x := X) (by omega) ka2
        exact ⟨⟨p.1, p.2, fun q => absurd rfl q⟩, DcOk.nil _ _⟩
      · exact ⟨hf, DcOk.nil _ _⟩
  · exact ⟨hf, DcOk.nil _ _⟩
theorem aShrL_of (R : RelE T ρ env) (ha : ivOf env x = some a) (hb : ivOf env y = some b) : AROk T ρ env.length 1 ((Int64.ofInt (ρ x.2.1 + x.2.2) >>> ((Int32.ofInt (ρ y.2.1 + y.2.2)).toInt64 &&& 63)).toInt) (aShr 1 a b) := by
  obtain ⟨ka1, ka2, -⟩ := ivOf_of R ha
  obtain ⟨kb1, kb2, -⟩ := ivOf_of R hb
  generalize ρ x.2.1 + x.2.2 = X at *
  generalize ρ y.2.1 + y.2.2 = Y at *
  have hf := fL_any (T := T) (Int64.ofInt X >>> ((Int32.ofInt Y).toInt64 &&& 63))
  unfold aShr
  split
  · next q =>
    rw [Bool.and_eq_true] at q
    have q1 : -9223372036854775808 ≤ a.1 := of_decide_eq_true q.1
    have q2 : a.2.1 ≤ 9223372036854775807 := of_decide_eq_true q.2
    have e : (Int64.ofInt X).toInt = X := mL_toInt ⟨by omega, by omega⟩
    split
    · next z =>
      rw [Bool.and_eq_true, Bool.and_eq_true] at z
      have z1 := of_decide_eq_true z.1
      have z2 := of_decide_eq_true z.2.1
      have z3 : b.1 < 64 := of_decide_eq_true z.2.2
      have eY : Y = ((b.1.toNat : Nat) : Int) := by omega
      rw [m_lshrX, e, eY, m_sh64 _ (by omega)]
      have p := m_shrB b.1.toNat ka1 ka2
      exact ⟨⟨p.1, p.2, fun q => absurd rfl q⟩, DcOk.nil _ _⟩
    · split
      · next z =>
        have z := of_decide_eq_true z
        rw [m_lshrX, e]
        have p := m_shrN (((Int32.ofInt Y).toInt64 &&& 63).toBitVec.smod 64).toNat (x := X) (by omega) ka2
        exact ⟨⟨p.1, p.2, fun q => absurd rfl q⟩, DcOk.nil _ _⟩
      · exact ⟨hf, DcOk.nil _ _⟩
  · exact ⟨hf, DcOk.nil _ _⟩
theorem m_ishlC {X : Int} {s : Nat} (hs : s < 32) (h0 : 0 ≤ X) (h1 : X * 2 ^ s ≤ 2147483647) : (Int32.ofInt X <<< (Int32.ofInt (s : Int) &&& 31)).toInt = X * 2 ^ s := by
  have h2 : X ≤ X * 2 ^ s := by
    have : X * 1 ≤ X * 2 ^ s := Int.mul_le_mul_of_nonneg_left (by exact_mod_cast Nat.pow_pos (by decide)) h0
    omega
  show ((Int32.ofInt X).toBitVec <<< ((Int32.ofInt (s : Int) &&& 31).toBitVec.smod 32)).toInt = _
  rw [BitVec.shiftLeft_eq', m_sh32 s hs, BitVec.toInt_shiftLeft]
  have e : (Int32.ofInt X).toBitVec.toNat = X.toNat := by
    show (BitVec.ofInt 32 X).toNat = _
    rw [BitVec.toNat_ofInt, Int.emod_eq_of_lt h0 (by omega)]
  rw [e, Nat.shiftLeft_eq, Int.natCast_mul, Int.natCast_pow, Int.toNat_of_nonneg h0]
  have e2 : ((2 : Nat) : Int) = 2 := rfl
  rw [e2]
  generalize X * 2 ^ s = Z at *
  exact Int.bmod_eq_of_le (by omega) (by omega)
theorem m_lshlC {X : Int} {s : Nat} (hs : s < 64) (h0 : 0 ≤ X) (h1 : X * 2 ^ s ≤ 9223372036854775807) : (Int64.ofInt X <<< ((Int32.ofInt (s : Int)).toInt64 &&& 63)).toInt = X * 2 ^ s := by
  have h2 : X ≤ X * 2 ^ s := by
    have : X * 1 ≤ X * 2 ^ s := Int.mul_le_mul_of_nonneg_left (by exact_mod_cast Nat.pow_pos (by decide)) h0
    omega
  show ((Int64.ofInt X).toBitVec <<< (((Int32.ofInt (s : Int)).toInt64 &&& 63).toBitVec.smod 64)).toInt = _
  rw [BitVec.shiftLeft_eq', m_sh64 s hs, BitVec.toInt_shiftLeft]
  have e : (Int64.ofInt X).toBitVec.toNat = X.toNat := by
    show (BitVec.ofInt 64 X).toNat = _
    rw [BitVec.toNat_ofInt, Int.emod_eq_of_lt h0 (by omega)]
  rw [e, Nat.shiftLeft_eq, Int.natCast_mul, Int.natCast_pow, Int.toNat_of_nonneg h0]
  have e2 : ((2 : Nat) : Int) = 2 := rfl
  rw [e2]
  generalize X * 2 ^ s = Z at *
  exact Int.bmod_eq_of_le (by omega) (by omega)
theorem mulP {a x b : Int} (n : Nat) (h1 : a ≤ x) (h2 : x ≤ b) : a * 2 ^ n ≤ x * 2 ^ n ∧ x * 2 ^ n ≤ b * 2 ^ n := by
  have p : (0 : Int) ≤ 2 ^ n := by exact_mod_cast Nat.zero_le _
  exact ⟨Int.mul_le_mul_of_nonneg_right h1 p, Int.mul_le_mul_of_nonneg_right h2 p⟩
theorem aShlI_of (R : RelE T ρ env) (ha : ivOf env x = some a) (hb : ivOf env y = some b) : AROk T ρ env.length 0 ((Int32.ofInt (ρ x.2.1 + x.2.2) <<< (Int32.ofInt (ρ y.2.1 + y.2.2) &&& 31)).toInt) (aShl 0 a b) := by
  obtain ⟨ka1, ka2, -⟩ := ivOf_of R ha
  obtain ⟨kb1, kb2, -⟩ := ivOf_of R hb
  generalize ρ x.2.1 + x.2.2 = X at *
  generalize ρ y.2.1 + y.2.2 = Y at *
  have hf := fI_any (T := T) (Int32.ofInt X <<< (Int32.ofInt Y &&& 31))
  unfold aShl
  split
  · next z =>
    rw [Bool.and_eq_true, Bool.and_eq_true, Bool.and_eq_true, Bool.and_eq_true] at z
    have z1 := of_decide_eq_true z.1
    have z2 := of_decide_eq_true z.2.1
    have z3 : b.1 < 32 := of_decide_eq_true z.2.2.1
    have z4 := of_decide_eq_true z.2.2.2.1
    have z5 : a.2.1 * 2 ^ b.1.toNat ≤ 2147483647 := of_decide_eq_true z.2.2.2.2
    have eY : Y = ((b.1.toNat : Nat) : Int) := by omega
    have p := mulP b.1.toNat ka1 ka2
    rw [eY, m_ishlC (by omega) (by omega) (Int.le_trans p.2 z5)]
    exact ⟨⟨p.1, p.2, fun q => absurd rfl q⟩, DcOk.nil _ _⟩
  · split
    · next z =>
      rw [Bool.and_eq_true, Bool.and_eq_true, Bool.and_eq_true, Bool.and_eq_true] at z
      have z1 := of_decide_eq_true z.1
      have z2 := of_decide_eq_true z.2.1
      have z3 := of_decide_eq_true z.2.2.1
      have z4 := of_decide_eq_true z.2.2.2.1
      have eX : X = 1 := by omega
      subst eX
      have p := m_ishl1B (y := Y) (a := b.1.toNat) (b := b.2.1.toNat) (by omega) (by omega) (by omega)
      exact ⟨⟨p.1, p.2, fun q => absurd rfl q⟩, DcOk.nil _ _⟩
    · exact ⟨hf, DcOk.nil _ _⟩
theorem aShlL_of (R : RelE T ρ env) (ha : ivOf env x = some a) (hb : ivOf env y = some b) : AROk T ρ env.length 1 ((Int64.ofInt (ρ x.2.1 + x.2.2) <<< ((Int32.ofInt (ρ y.2.1 + y.2.2)).toInt64 &&& 63)).toInt) (aShl 1 a b) := by
  obtain ⟨ka1, ka2, -⟩ := ivOf_of R ha
  obtain ⟨kb1, kb2, -⟩ := ivOf_of R hb
  generalize ρ x.2.1 + x.2.2 = X at *
  generalize ρ y.2.1 + y.2.2 = Y at *
  have hf := fL_any (T := T) (Int64.ofInt X <<< ((Int32.ofInt Y).toInt64 &&& 63))
  unfold aShl
  split
  · next z =>
    rw [Bool.and_eq_true, Bool.and_eq_true, Bool.and_eq_true, Bool.and_eq_true] at z
    have z1 := of_decide_eq_true z.1
    have z2 := of_decide_eq_true z.2.1
    have z3 : b.1 < 64 := of_decide_eq_true z.2.2.1
    have z4 := of_decide_eq_true z.2.2.2.1
    have z5 : a.2.1 * 2 ^ b.1.toNat ≤ 9223372036854775807 := of_decide_eq_true z.2.2.2.2
    have eY : Y = ((b.1.toNat : Nat) : Int) := by omega
    have p := mulP b.1.toNat ka1 ka2
    rw [eY, m_lshlC (by omega) (by omega) (Int.le_trans p.2 z5)]
    exact ⟨⟨p.1, p.2, fun q => absurd rfl q⟩, DcOk.nil _ _⟩
  · split
    · next z =>
      rw [Bool.and_eq_true, Bool.and_eq_true, Bool.and_eq_true, Bool.and_eq_true] at z
      exact absurd z.2.2.2.2 (by decide)
    · exact ⟨hf, DcOk.nil _ _⟩
end AS
