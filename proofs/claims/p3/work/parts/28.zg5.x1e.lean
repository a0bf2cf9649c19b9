/-! X1: shifts, a limb of a quotient: pure -/
theorem smod30 (n : Nat) (h : n < 31) : (((Int32.ofInt (n : Int)).toInt64 &&& 63).toBitVec.smod 64).toNat = n := (by decide +kernel : ∀ n : Nat, n < 31 → (((Int32.ofInt (n : Int)).toInt64 &&& 63).toBitVec.smod 64).toNat = n) n h
theorem smod30i (n : Nat) (h : n < 31) : ((Int32.ofInt (n : Int) &&& 31).toBitVec.smod 32).toNat = n := (by decide +kernel : ∀ n : Nat, n < 31 → ((Int32.ofInt (n : Int) &&& 31).toBitVec.smod 32).toNat = n) n h
theorem h_lshlv {x s : Int} (hs : 0 ≤ s ∧ s ≤ 30) (hx : 0 ≤ x) (h2 : x * 2 ^ s.toNat < 4611686018427387904) : (Int64.ofInt x <<< ((Int32.ofInt s).toInt64 &&& 63)).toInt = x * 2 ^ s.toNat := by
  obtain ⟨n, rfl⟩ := Int.eq_ofNat_of_zero_le hs.1
  obtain ⟨X, rfl⟩ := Int.eq_ofNat_of_zero_le hx
  have e := smod30 n (by omega)
  rw [Int.toNat_natCast] at h2 ⊢
  have c : (X : Int) * 2 ^ n = ((X * 2 ^ n : Nat) : Int) := by
    rw [Int.natCast_mul, Int.natCast_pow]
    rfl
  rw [c] at h2 ⊢
  have pp : 0 < 2 ^ n := Nat.pow_pos (by decide)
  have xl : X ≤ X * 2 ^ n := Nat.le_mul_of_pos_right _ pp
  have e1 : (Int64.ofInt (X : Int) <<< ((Int32.ofInt (n : Int)).toInt64 &&& 63)).toInt = ((BitVec.ofInt 64 (X : Int)) <<< (((Int32.ofInt (n : Int)).toInt64 &&& 63).toBitVec.smod 64).toNat).toInt := rfl
  rw [e1, e]
  have p64 : (2 : Nat) ^ 64 = 18446744073709551616 := by decide +kernel
  have e2 : ((BitVec.ofInt 64 (X : Int)) <<< n).toNat = X * 2 ^ n := by
    rw [BitVec.toNat_shiftLeft, BitVec.toNat_ofInt, Nat.shiftLeft_eq, p64]
    have : ((X : Int) % ((18446744073709551616 : Nat) : Int)).toNat = X := by omega
    rw [this]
    exact Nat.mod_eq_of_lt (by omega)
  have e3 : 2 * ((BitVec.ofInt 64 (X : Int)) <<< n).toNat < 2 ^ 64 := by
    rw [e2, p64]
    omega
  rw [BitVec.toInt_eq_toNat_of_lt e3, e2]
theorem h_ishrv {x s : Int} (hs : 0 ≤ s ∧ s ≤ 30) (hv : -2147483648 ≤ x ∧ x ≤ 2147483647) : (Int32.ofInt x >>> (Int32.ofInt s &&& 31)).toInt = x / 2 ^ s.toNat := by
  obtain ⟨n, rfl⟩ := Int.eq_ofNat_of_zero_le hs.1
  rw [m_ishrX, smod30i n (by omega), mI_toInt hv, Int.shiftRight_eq_div_pow]
  rw [Int.toNat_natCast]
  show x / ((2 ^ n : Nat) : Int) = _
  rw [Int.natCast_pow]
  rfl
theorem h_lor {x y z : Int} {k : Nat} (hx : 0 ≤ x ∧ x < 2 ^ k) (hz : 0 ≤ z) (e : y = 2 ^ k * z) (hb : x + y < 4611686018427387904) : (Int64.ofInt x ||| Int64.ofInt y).toInt = x + y ∧ (Int64.ofInt y ||| Int64.ofInt x).toInt = y + x := by
  obtain ⟨X, rfl⟩ := Int.eq_ofNat_of_zero_le hx.1
  obtain ⟨Z, rfl⟩ := Int.eq_ofNat_of_zero_le hz
  have c : (2 : Int) ^ k * (Z : Int) = ((2 ^ k * Z : Nat) : Int) := by
    rw [Int.natCast_mul, Int.natCast_pow]
    rfl
  rw [c] at e
  subst e
  have lx : X < 2 ^ k := by
    have := hx.2
    have c2 : (2 : Int) ^ k = ((2 ^ k : Nat) : Int) := by
      rw [Int.natCast_pow]
      rfl
    rw [c2] at this
    omega
  have o := Nat.two_pow_add_eq_or_of_lt lx Z
  have p64 : (2 : Nat) ^ 64 = 18446744073709551616 := by decide +kernel
  generalize 2 ^ k * Z = Y at *
  have n1 : (BitVec.ofInt 64 (X : Int)).toNat = X := by
    rw [BitVec.toNat_ofInt, p64]
    omega
  have n2 : (BitVec.ofInt 64 (Y : Int)).toNat = Y := by
    rw [BitVec.toNat_ofInt, p64]
    omega
  have f : ∀ a b : Nat, a ||| b = Y + X → (BitVec.ofInt 64 (a : Int)).toNat = a → (BitVec.ofInt 64 (b : Int)).toNat = b → (Int64.ofInt (a : Int) ||| Int64.ofInt (b : Int)).toInt = ((Y + X : Nat) : Int) := fun a b h ha hb' => by
    have e1 : (Int64.ofInt (a : Int) ||| Int64.ofInt (b : Int)).toInt = (BitVec.ofInt 64 (a : Int) ||| BitVec.ofInt 64 (b : Int)).toInt := rfl
    have e2 : (BitVec.ofInt 64 (a : Int) ||| BitVec.ofInt 64 (b : Int)).toNat = Y + X := by rw [BitVec.toNat_or, ha, hb', h]
    rw [e1, BitVec.toInt_eq_toNat_of_lt (by rw [e2, p64]; omega), e2]
  refine ⟨?_, ?_⟩
  · rw [f X Y (by rw [Nat.or_comm]; exact o.symm) n1 n2]
    omega
  · rw [f Y X o.symm n2 n1]
    omega
/-- powers of two up to a limb -/
theorem p2_b {n : Nat} (h : n ≤ 30) : 1 ≤ (2 : Int) ^ n ∧ (2 : Int) ^ n ≤ 1073741824 ∧ (2 : Int) ^ n * 2 ^ (30 - n) = 1073741824 := by
  have a : (0 : Int) < 2 ^ n := Int.pow_pos (by decide)
  have b := pmono (b := 2) (by decide) h
  have c : (2 : Int) ^ 30 = 1073741824 := by decide
  refine ⟨by omega, by omega, ?_⟩
  rw [← Int.pow_add, show n + (30 - n) = 30 by omega]
  exact c
theorem kd_all {sf f : Int → Int} {n : Nat} (n1 : 1 ≤ n) (ds : Dg1 sf n) (df : Dg1 f ((n + 1 : Nat) : Int)) {fi se th u : Int} (efi : fi = sf ((n : Int) - 1)) (ese : 1 < n → se = sf ((n : Int) - 2)) (ese1 : n = 1 → se = 0) (eth : 1 < n → th = f ((n : Int) - 2)) (eth1 : n = 1 → th = 0) (eu : u = f (n : Int) * 1073741824 + f ((n : Int) - 1)) (nrm : 536870912 ≤ fi) (rs : nv1 f (n + 1) < nv1 sf n * 1073741824) :
    0 < nv1 sf n ∧ nv1 f (n + 1) / nv1 sf n * fi ≤ u ∧ nv1 f (n + 1) / nv1 sf n ≤ 1073741823 ∧ 0 ≤ nv1 f (n + 1) / nv1 sf n ∧ u < (fi + 1) * 1073741824 ∧
    (∀ g le : Int, 0 ≤ g → 0 ≤ le → g * fi + le = u → le * 1073741824 + th < g * se → nv1 f (n + 1) / nv1 sf n ≤ g - 1) ∧
    (∀ g le : Int, 0 ≤ g → g ≤ 1073741824 → g * fi + le = u → 1073741824 ≤ le → g ≤ nv1 f (n + 1) / nv1 sf n) ∧
    (∀ g le : Int, 0 ≤ g → g ≤ 1073741823 → g * fi + le = u → 0 ≤ le → g * se ≤ le * 1073741824 + th → g ≤ nv1 f (n + 1) / nv1 sf n + 1) := by
  obtain ⟨k, rfl⟩ : ∃ k : Nat, n = k + 1 := ⟨n - 1, by omega⟩
  have c1 : ((k + 1 : Nat) : Int) - 1 = (k : Int) := by omega
  rw [c1] at efi eu
  have fb : fi ≤ 1073741823 := by rw [efi]; exact (ds (k : Int) (by omega) (by omega)).2
  have lS := nv1_b (f := sf) (n := k) fun j a b => ds j a (by omega)
  have lR := nv1_b (f := f) (n := k) fun j a b => df j a (by omega)
  have pk := p30_pos k
  have eS : nv1 sf (k + 1) = fi * 1073741824 ^ k + nv1 sf k := by
    rw [nv1_2, efi]
    omega
  have eR : nv1 f (k + 1 + 1) = u * 1073741824 ^ k + nv1 f k := by
    rw [nv1_3 k, eu, Int.add_mul, Int.mul_assoc]
    omega
  obtain ⟨S, hS⟩ : ∃ S, S = nv1 sf (k + 1) := ⟨_, rfl⟩
  obtain ⟨R, hR⟩ : ∃ R, R = nv1 f (k + 1 + 1) := ⟨_, rfl⟩
  rw [← hS] at eS rs ⊢
  rw [← hR] at eR rs ⊢
  have f0 := Int.mul_le_mul_of_nonneg_right nrm (Int.le_of_lt pk)
  have S0 : 0 < S := by omega
  have q := Int.ediv_mul_le R (show S ≠ 0 by omega)
  have q2 := Int.lt_ediv_add_one_mul_self R S0
  have d0 : 0 ≤ f (k : Int) ∧ 0 ≤ f ((k + 1 : Nat) : Int) := ⟨(df _ (by omega) (by omega)).1, (df _ (by omega) (by omega)).1⟩
  have R0 : 0 ≤ R := by
    have : 0 ≤ u * 1073741824 ^ k := Int.mul_nonneg (by rw [eu]; omega) (Int.le_of_lt pk)
    omega
  have Q0 : 0 ≤ R / S := Int.ediv_nonneg R0 (Int.le_of_lt S0)
  obtain ⟨Q, hQ⟩ : ∃ Q, Q = R / S := ⟨_, rfl⟩
  rw [← hQ] at q q2 Q0 ⊢
  have le_of : ∀ g : Int, g * S ≤ R → g ≤ Q := fun g h => by
    by_cases w : g ≤ Q
    · exact w
    · exfalso
      have := Int.mul_le_mul_of_nonneg_right (show Q + 1 ≤ g by omega) (Int.le_of_lt S0)
      omega
  have le_of1 : ∀ g : Int, g * S ≤ R + S → g ≤ Q + 1 := fun g h => by
    have := le_of (g - 1) (by rw [Int.sub_mul, Int.one_mul]; omega)
    omega
  refine ⟨S0, ?_, kd_qB q rs S0, Q0, ?_, ?_, ?_, ?_⟩
  · exact kd_ge (N := 1073741824 ^ k) pk q (by omega) (by rw [Int.add_mul, Int.one_mul]; omega) Q0
  · by_cases w : u < (fi + 1) * 1073741824
    · exact w
    · exfalso
      have a := Int.mul_le_mul_of_nonneg_right (show (fi + 1) * 1073741824 ≤ u by omega) (Int.le_of_lt pk)
      have b : (fi + 1) * 1073741824 * 1073741824 ^ k = (fi * 1073741824 ^ k + 1073741824 ^ k) * 1073741824 := by grind
      rw [b] at a
      omega
  · intro g le g0 l0 gu t
    by_cases k1 : k = 0
    · exfalso
      rw [ese1 (by omega), eth1 (by omega), Int.mul_zero] at t
      omega
    · obtain ⟨m, rfl⟩ : ∃ m : Nat, k = m + 1 := ⟨k - 1, by omega⟩
      have c2 : (((m + 1 + 1 : Nat) : Int)) - 2 = (m : Int) := by omega
      have e1 := ese (by omega)
      have e2 := eth (by omega)
      rw [c2] at e1 e2
      have lS2 := nv1_b (f := sf) (n := m) fun j a b => ds j a (by omega)
      have lR2 := nv1_b (f := f) (n := m) fun j a b => df j a (by omega)
      have d1 := (ds (m : Int) (by omega) (by omega)).1
      exact kd_dec (N2 := 1073741824 ^ m) (p30_pos m) (by rw [eS, nv1_2, ← e1, p30_s]; omega) (Int.le_of_lt S0) lS2.1 (by rw [eR, nv1_2, ← e2, p30_s]; omega) lR2.2 gu t q g0
  · intro g le g0 gB gu l
    exact le_of g (kd_a (N := 1073741824 ^ k) eS (Int.le_of_lt lS.2) (Int.le_of_lt pk) lR.1 eR gu l g0 gB)
  · intro g le g0 gB gu l0 t
    by_cases k1 : k = 0
    · have e1 : nv1 sf 0 = 0 := rfl
      have e2 : nv1 f 0 = 0 := rfl
      have e3 : (1073741824 : Int) ^ 0 = 1 := rfl
      rw [k1, e1, e3] at eS
      rw [k1, e2, e3] at eR
      have := le_of g (by rw [eS, eR, ← gu, Int.mul_one, Int.add_zero, Int.mul_one, Int.add_zero]; omega)
      omega
    · obtain ⟨m, rfl⟩ : ∃ m : Nat, k = m + 1 := ⟨k - 1, by omega⟩
      have c2 : (((m + 1 + 1 : Nat) : Int)) - 2 = (m : Int) := by omega
      have e1 := ese (by omega)
      have e2 := eth (by omega)
      rw [c2] at e1 e2
      have lS2 := nv1_b (f := sf) (n := m) fun j a b => ds j a (by omega)
      have lR2 := nv1_b (f := f) (n := m) fun j a b => df j a (by omega)
      have d1 := (ds (m : Int) (by omega) (by omega)).1
      exact le_of1 g (kd_b (N2 := 1073741824 ^ m) (p30_pos m) (by rw [eS, nv1_2, ← e1, p30_s]; omega) (Int.le_of_lt lS2.2) (by omega) (by rw [e1]; exact d1) lS2.1 (by rw [eR, nv1_2, ← e2, p30_s]; omega) lR2.1 gu t g0 gB)
