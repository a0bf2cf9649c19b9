/-! X18: numbers of 64 limbs, pure -/
theorem h_and16i (v : Int) : (Int32.ofInt v &&& Int32.ofInt 65535).toInt = v % 65536 := by
  have e1 : (Int32.ofInt v &&& Int32.ofInt 65535).toInt = (BitVec.ofInt 32 v &&& BitVec.ofInt 32 65535).toInt := rfl
  have e2 : (BitVec.ofInt 32 v &&& BitVec.ofInt 32 65535).toNat = (v % 4294967296).toNat % 65536 := by
    rw [BitVec.toNat_and, BitVec.toNat_ofInt, BitVec.toNat_ofInt]
    have e3 : ((65535 : Int) % ((2 ^ 32 : Nat) : Int)).toNat = 2 ^ 16 - 1 := by decide
    rw [e3, Nat.and_two_pow_sub_one_eq_mod]
    rfl
  rw [e1, BitVec.toInt_eq_toNat_of_lt (by rw [e2]; omega), e2]
  omega
theorem h_and16l (v : Int) : (Int64.ofInt v &&& Int64.ofInt 65535).toInt = v % 65536 := by
  have e1 : (Int64.ofInt v &&& Int64.ofInt 65535).toInt = (BitVec.ofInt 64 v &&& BitVec.ofInt 64 65535).toInt := rfl
  have e2 : (BitVec.ofInt 64 v &&& BitVec.ofInt 64 65535).toNat = (v % 18446744073709551616).toNat % 65536 := by
    rw [BitVec.toNat_and, BitVec.toNat_ofInt, BitVec.toNat_ofInt]
    have e3 : ((65535 : Int) % ((2 ^ 64 : Nat) : Int)).toNat = 2 ^ 16 - 1 := by decide
    rw [e3, Nat.and_two_pow_sub_one_eq_mod]
    rfl
  rw [e1, BitVec.toInt_eq_toNat_of_lt (by rw [e2]; omega), e2]
  omega
theorem h_shr16i {v : Int} (hv : -2147483648 ≤ v ∧ v ≤ 2147483647) : (Int32.ofInt v >>> (Int32.ofInt 16 &&& 31)).toInt = v / 65536 := by
  have e : ((Int32.ofInt 16 &&& 31).toBitVec.smod 32).toNat = 16 := by decide +kernel
  rw [m_ishrX, e, mI_toInt hv, Int.shiftRight_eq_div_pow]
  rfl
theorem h_shr16l {v : Int} (hv : -9223372036854775808 ≤ v ∧ v ≤ 9223372036854775807) : (Int64.ofInt v >>> ((Int32.ofInt 16).toInt64 &&& 63)).toInt = v / 65536 := by
  have e : (((Int32.ofInt 16).toInt64 &&& 63).toBitVec.smod 64).toNat = 16 := by decide +kernel
  rw [m_lshrX, e, mL_toInt hv, Int.shiftRight_eq_div_pow]
  rfl
/-- the top limbs, so many -/
def hv18 (f : Int → Int) : Nat → Int
  | 0 => 0
  | n + 1 => f (63 - (n : Int)) + 65536 * hv18 f n
/-- the low limbs, so many -/
def lv18 (f : Int → Int) : Nat → Int
  | 0 => 0
  | n + 1 => lv18 f n + f (n : Int) * 65536 ^ n
def D18 (f : Int → Int) : Prop := ∀ j : Int, 0 ≤ j → j ≤ 63 → 0 ≤ f j ∧ f j ≤ 65535
theorem hv18_cg {f g : Int → Int} : ∀ {n : Nat}, (∀ j : Int, 63 - (n : Int) < j → j ≤ 63 → f j = g j) → hv18 f n = hv18 g n
  | 0, _ => rfl
  | n + 1, e => by
    show f (63 - (n : Int)) + 65536 * hv18 f n = g (63 - (n : Int)) + 65536 * hv18 g n
    rw [e _ (by omega) (by omega), hv18_cg (n := n) fun j a b => e j (by omega) b]
theorem lv18_cg {f g : Int → Int} : ∀ {n : Nat}, (∀ j : Int, 0 ≤ j → j < (n : Int) → f j = g j) → lv18 f n = lv18 g n
  | 0, _ => rfl
  | n + 1, e => by
    show lv18 f n + f (n : Int) * 65536 ^ n = lv18 g n + g (n : Int) * 65536 ^ n
    rw [e _ (by omega) (by omega), lv18_cg (n := n) fun j a b => e j a (by omega)]
theorem lv_hv {f : Int → Int} : ∀ {k : Nat}, k ≤ 64 → lv18 f k + 65536 ^ k * hv18 f (64 - k) = hv18 f 64
  | 0, _ => by
    show 0 + 1 * hv18 f 64 = _
    omega
  | k + 1, hk => by
    have a := lv_hv (f := f) (k := k) (by omega)
    obtain ⟨m, em⟩ : ∃ m : Nat, 64 - k = m + 1 := ⟨63 - k, by omega⟩
    rw [em] at a
    have e : hv18 f (m + 1) = f (k : Int) + 65536 * hv18 f m := by
      show f (63 - (m : Int)) + 65536 * hv18 f m = _
      rw [show (63 : Int) - (m : Int) = (k : Int) by omega]
    rw [e] at a
    rw [show 64 - (k + 1) = m by omega, ← a]
    show lv18 f k + f (k : Int) * 65536 ^ k + 65536 ^ (k + 1) * hv18 f m = _
    rw [Int.pow_succ, Int.mul_add, Int.mul_comm (f (k : Int)), Int.mul_assoc, Int.add_assoc]
theorem p18_pos (k : Nat) : (0 : Int) < 65536 ^ k := Int.pow_pos (by decide)
theorem hv18_b {f : Int → Int} (d : D18 f) : ∀ {n : Nat}, n ≤ 64 → 0 ≤ hv18 f n ∧ hv18 f n < 65536 ^ n
  | 0, _ => ⟨Int.le_refl _, by show (0 : Int) < 1; decide⟩
  | n + 1, hn => by
    have a := hv18_b d (n := n) (by omega)
    have b := d (63 - (n : Int)) (by omega) (by omega)
    have e : (65536 : Int) ^ (n + 1) = 65536 ^ n * 65536 := Int.pow_succ _ _
    have g : hv18 f (n + 1) = f (63 - (n : Int)) + 65536 * hv18 f n := rfl
    rw [g, e]
    omega
theorem lv18_nn {f : Int → Int} (d : D18 f) : ∀ {n : Nat}, n ≤ 64 → 0 ≤ lv18 f n
  | 0, _ => Int.le_refl _
  | n + 1, hn => by
    have a := lv18_nn d (n := n) (by omega)
    have b := d (n : Int) (by omega) (by omega)
    have c := Int.mul_nonneg b.1 (Int.le_of_lt (p18_pos n))
    show 0 ≤ lv18 f n + f (n : Int) * 65536 ^ n
    omega
/-- a rest, a limb further -/
theorem rest18 {H x m : Int} : (H % m * 65536 + x) % m = (x + 65536 * H) % m := by
  have e := Int.emod_add_mul_ediv H m
  have e2 : x + 65536 * H = (H % m * 65536 + x) + m * (65536 * (H / m)) := by
    rw [Int.mul_left_comm]
    omega
  rw [e2, Int.add_mul_emod_self_left]
/-- a quotient, a limb further -/
theorem quot18 {H x m : Int} (hm : 1 ≤ m) : (x + 65536 * H) / m = (H % m * 65536 + x) / m + 65536 * (H / m) := by
  have e := Int.emod_add_mul_ediv H m
  have e2 : x + 65536 * H = (H % m * 65536 + x) + m * (65536 * (H / m)) := by
    rw [Int.mul_left_comm]
    omega
  rw [e2, Int.add_mul_ediv_left _ _ (by omega)]
theorem div18 {r x m : Int} (hm : 1 ≤ m) (hr : 0 ≤ r ∧ r < m) (hx : 0 ≤ x ∧ x ≤ 65535) : 0 ≤ (r * 65536 + x) / m ∧ (r * 65536 + x) / m ≤ 65535 := by
  refine ⟨Int.ediv_nonneg (by omega) (by omega), ?_⟩
  have : (r * 65536 + x) / m < 65536 := Int.ediv_lt_of_lt_mul (by omega) (by omega)
  omega
/-- what times() keeps: a limb further -/
theorem times18 {P V c x m b d : Int} {k : Nat} (h : P + c * 65536 ^ k = m * V) (e : c + x * m = b + 65536 * d) : P + b * 65536 ^ k + d * 65536 ^ (k + 1) = m * (V + x * 65536 ^ k) := by
  have e1 : (65536 : Int) ^ (k + 1) = 65536 ^ k * 65536 := Int.pow_succ _ _
  rw [e1, Int.mul_add, ← h]
  have e2 : m * (x * 65536 ^ k) = (x * m) * 65536 ^ k := by rw [Int.mul_left_comm, Int.mul_assoc]
  have e3 : d * (65536 ^ k * 65536) = (65536 * d) * 65536 ^ k := by rw [Int.mul_comm (65536 ^ k), ← Int.mul_assoc, Int.mul_comm d]
  rw [e2, e3, Int.add_assoc, ← Int.add_mul, ← e, Int.add_mul, Int.add_assoc]
theorem Str1 {h : MH} {t rf : List (Nat × Nat × Nat)} {c k n : Nat} (g : Str t rf h) (m : (c, k, n) ∈ t) : Str [(c, k, n)] [] h := ⟨fun q hq => by rw [List.mem_singleton.mp hq]; exact g.1 _ m, fun q hq => absurd hq List.not_mem_nil⟩
theorem Str2 {h : MH} {t rf : List (Nat × Nat × Nat)} {c k n c2 k2 n2 : Nat} (g : Str t rf h) (m : (c, k, n) ∈ t) (m2 : (c2, k2, n2) ∈ t) : Str [(c, k, n), (c2, k2, n2)] [] h := ⟨fun q hq => by
  rcases List.mem_cons.mp hq with e | e
  · rw [e]; exact g.1 _ m
  · rw [List.mem_singleton.mp e]; exact g.1 _ m2, fun q hq => absurd hq List.not_mem_nil⟩
theorem DZ18 (f : Int → Int) (h : ∀ j : Int, 0 ≤ j → j ≤ 63 → f j = 0) : ∀ n : Nat, n ≤ 64 → hv18 f n = 0
  | 0, _ => rfl
  | n + 1, hn => by
    show f (63 - (n : Int)) + 65536 * hv18 f n = 0
    rw [h _ (by omega) (by omega), DZ18 f h n (by omega)]
    rfl
/-- 0 but for the lowest limb -/
theorem set18 {f : Int → Int} {v : Int} (h : ∀ j : Int, 1 ≤ j → j ≤ 63 → f j = 0) (h0 : f 0 = v) : hv18 f 64 = v := by
  show f (63 - ((63 : Nat) : Int)) + 65536 * hv18 f 63 = v
  have e : hv18 f 63 = 0 := by
    rw [hv18_cg (g := fun _ => 0) fun j a b => h j (by omega) b]
    exact DZ18 _ (fun _ _ _ => rfl) 63 (by omega)
  rw [e, show (63 : Int) - ((63 : Nat) : Int) = 0 by decide, h0]
  omega
theorem pow18 {V : Int} {n : Nat} (hn : n ≤ 32) (h : V ≤ 2000000 ^ n) {m : Int} (m1 : 1 ≤ m ∧ m ≤ 2000000) (v1 : 1 ≤ V) : m * V ≤ 2000000 ^ (n + 1) ∧ 1 ≤ m * V := by
  rw [Int.pow_succ, Int.mul_comm]
  refine ⟨Int.mul_le_mul h m1.2 (by omega) (by omega), ?_⟩
  have := Int.mul_le_mul v1 m1.1 (by decide) (by omega)
  omega
theorem pmono {b : Int} (hb : 1 ≤ b) {n : Nat} : ∀ {m : Nat}, n ≤ m → b ^ n ≤ b ^ m
  | 0, h => by rw [Nat.le_zero.mp h]; exact Int.le_refl _
  | m + 1, h => by
    by_cases q : n = m + 1
    · rw [q]; exact Int.le_refl _
    · have a := pmono hb (n := n) (m := m) (by omega)
      have p : 0 < b ^ m := Int.pow_pos (by omega)
      have c := Int.mul_le_mul_of_nonneg_left hb (Int.le_of_lt p)
      rw [Int.pow_succ]
      omega
theorem pw18 {n : Nat} (hn : n ≤ 33) : (2000000 : Int) ^ n < 65536 ^ 64 := by
  have a : (2000000 : Int) ^ n ≤ 2000000 ^ 33 := pmono (by decide) hn
  exact Int.lt_of_le_of_lt a (by decide +kernel)
/-- plans: one that can be has a first inspection -/
def E18 (h : MH) (pl co : Nat) (n a b : Int) : Prop := 0 ≤ ga h pl (31 * a + b) → ∃ z : Int, a < z ∧ z < n ∧ 0 ≤ ga h pl (31 * z + (b - 1)) ∧ wrL (wrL (wrL (ga h co 1 * (z - a)) * (z - a)) + ga h pl (31 * z + (b - 1))) = ga h pl (31 * a + b)
theorem E18.keep {h h' : MH} {pl co : Nat} {n a b y m : Int} (e : E18 h pl co n a b) (o : ∀ j : Int, 0 ≤ j → j ≠ 31 * y + m → ga h' pl j = ga h pl j) (c : ga h' co 1 = ga h co 1) (hb : 1 ≤ b ∧ b ≤ 30) (hm : 0 ≤ m ∧ m ≤ 30) (ha : 0 ≤ y ∧ y ≤ a) (ne : y < a ∨ b ≠ m) : E18 h' pl co n a b := by
  unfold E18 at e ⊢
  rw [o (31 * a + b) (by omega) (by omega), c]
  intro q
  obtain ⟨z, z1, z2, z3, z4⟩ := e q
  refine ⟨z, z1, z2, ?_, ?_⟩
  · rw [o (31 * z + (b - 1)) (by omega) (by omega)]
    exact z3
  · rw [o (31 * z + (b - 1)) (by omega) (by omega)]
    exact z4
