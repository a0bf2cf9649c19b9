/-! by hand: numbers of 24 bits a limb, as they lie in one row; values of them -/
def PW : Nat → Int
  | 0 => 1
  | k + 1 => PW k * 16777216
theorem PW_pos : ∀ k, 0 < PW k
  | 0 => by decide
  | k + 1 => by
    have := PW_pos k
    unfold PW
    omega
theorem PW_le : ∀ {i j : Nat}, i ≤ j → PW i ≤ PW j
  | i, 0, h => by
    have : i = 0 := by omega
    rw [this]
    exact Int.le_refl _
  | i, j + 1, h => by
    by_cases e : i = j + 1
    · rw [e]
      exact Int.le_refl _
    · have := PW_le (i := i) (j := j) (by omega)
      have := PW_pos j
      show _ ≤ PW j * 16777216
      omega
/-- limbs 1 .. k -/
def bl (f : Int → Int) : Nat → Int
  | 0 => 0
  | k + 1 => bl f k + f ((k : Int) + 1) * PW k
theorem bl_s (f : Int → Int) (k : Nat) : bl f (k + 1) = bl f k + f ((k : Int) + 1) * PW k := rfl
theorem bl_congr {f g : Int → Int} : ∀ k : Nat, (∀ j : Int, 1 ≤ j → j ≤ (k : Int) → f j = g j) → bl f k = bl g k
  | 0, _ => rfl
  | k + 1, h => by
    rw [bl_s, bl_s, bl_congr k (fun j a b => h j a (by omega)), h ((k : Int) + 1) (by omega) (by omega)]
theorem bl_rng {f : Int → Int} : ∀ k : Nat, (∀ j : Int, 1 ≤ j → j ≤ (k : Int) → 0 ≤ f j ∧ f j < 16777216) → 0 ≤ bl f k ∧ bl f k < PW k
  | 0, _ => by
    show (0 : Int) ≤ 0 ∧ (0 : Int) < 1
    omega
  | k + 1, h => by
    have ih := bl_rng k (fun j a b => h j a (by omega))
    have hx := h ((k : Int) + 1) (by omega) (by omega)
    have hP := PW_pos k
    rw [bl_s]
    have e1 : 0 ≤ f ((k : Int) + 1) * PW k := Int.mul_nonneg hx.1 (by omega)
    have e2 : (f ((k : Int) + 1) + 1) * PW k ≤ 16777216 * PW k := Int.mul_le_mul_of_nonneg_right (by omega) (by omega)
    rw [Int.add_mul, Int.one_mul] at e2
    show _ ∧ _ < PW k * 16777216
    omega
theorem bl_ext {f : Int → Int} {k : Nat} : ∀ m : Nat, k ≤ m → (∀ j : Int, (k : Int) < j → j ≤ (m : Int) → f j = 0) → bl f m = bl f k
  | 0, h, _ => by
    have : k = 0 := by omega
    rw [this]
  | m + 1, h, z => by
    by_cases e : k = m + 1
    · rw [e]
    · rw [bl_s, z ((m : Int) + 1) (by omega) (by omega), bl_ext m (by omega) (fun j a b => z j a (by omega)), Int.zero_mul, Int.add_zero]
theorem bl_up {f g : Int → Int} {k : Nat} : ∀ m : Nat, k ≤ m → (∀ j : Int, (k : Int) < j → j ≤ (m : Int) → f j = g j) → bl f m - bl f k = bl g m - bl g k
  | 0, h, _ => by
    have : k = 0 := by omega
    rw [this]
    omega
  | m + 1, h, z => by
    by_cases e : k = m + 1
    · rw [e]
      omega
    · have := bl_up (f := f) (g := g) m (by omega) (fun j a b => z j a (by omega))
      rw [bl_s, bl_s, z ((m : Int) + 1) (by omega) (by omega)]
      omega
theorem bl_top {f : Int → Int} {k : Nat} (h : ∀ j : Int, 1 ≤ j → j ≤ (k : Int) + 1 → 0 ≤ f j ∧ f j < 16777216) (p : f ((k : Int) + 1) ≠ 0) : PW k ≤ bl f (k + 1) := by
  have a := bl_rng k (fun j a b => h j a (by omega))
  have b := h ((k : Int) + 1) (by omega) (by omega)
  rw [bl_s]
  have : 1 * PW k ≤ f ((k : Int) + 1) * PW k := Int.mul_le_mul_of_nonneg_right (by omega) (by have := PW_pos k; omega)
  omega
theorem bl_lt {f g : Int → Int} {k : Nat} (hf : ∀ j : Int, 1 ≤ j → j ≤ (k : Int) → 0 ≤ f j ∧ f j < 16777216) (hg : ∀ j : Int, 1 ≤ j → j ≤ (k : Int) → 0 ≤ g j ∧ g j < 16777216) (p : f ((k : Int) + 1) < g ((k : Int) + 1)) : bl f (k + 1) < bl g (k + 1) := by
  have a := bl_rng k hf
  have b := bl_rng k hg
  rw [bl_s, bl_s]
  have : (f ((k : Int) + 1) + 1) * PW k ≤ g ((k : Int) + 1) * PW k := Int.mul_le_mul_of_nonneg_right (by omega) (by have := PW_pos k; omega)
  rw [Int.add_mul, Int.one_mul] at this
  omega
/-- number n, in a row of W a number: its size, its limbs -/
def lm (Z : Int → Int) (W n j : Int) : Int := Z (W * n + j)
def sz (Z : Int → Int) (W n : Int) : Int := Z (W * n)
/-- what limb() answers -/
def lb (Z : Int → Int) (W n j : Int) : Int := if j ≤ sz Z W n then lm Z W n j else 0
def Dg (Z : Int → Int) (W n k : Int) : Prop := ∀ j : Int, 1 ≤ j → j ≤ k → 0 ≤ lm Z W n j ∧ lm Z W n j < 16777216
def Num (Z : Int → Int) (W n : Int) : Prop := 0 ≤ sz Z W n ∧ sz Z W n < W ∧ Dg Z W n (sz Z W n) ∧ (1 ≤ sz Z W n → lm Z W n (sz Z W n) ≠ 0)
def vl (Z : Int → Int) (W n : Int) : Int := bl (lm Z W n) (sz Z W n).toNat
theorem lb_rng {Z : Int → Int} {W n : Int} (h : Num Z W n) {j : Int} (hj : 1 ≤ j) : 0 ≤ lb Z W n j ∧ lb Z W n j < 16777216 := by
  unfold lb
  split
  · next q => exact h.2.2.1 j hj q
  · omega
theorem vl_lb {Z : Int → Int} {W n : Int} (h : Num Z W n) {m : Nat} (hm : sz Z W n ≤ (m : Int)) : vl Z W n = bl (lb Z W n) m := by
  unfold vl
  have h0 := h.1
  rw [bl_ext (k := (sz Z W n).toNat) m (by omega) (fun j a b => by
    unfold lb
    rw [if_neg (by omega)])]
  refine bl_congr _ fun j a b => ?_
  unfold lb
  rw [if_pos (by omega)]
theorem vl_nonneg {Z : Int → Int} {W n : Int} (h : Num Z W n) : 0 ≤ vl Z W n := (bl_rng _ (fun j a b => h.2.2.1 j a (by have := h.1; omega))).1
theorem vl_lt {Z : Int → Int} {W n : Int} (h : Num Z W n) {m : Nat} (hm : sz Z W n ≤ (m : Int)) : vl Z W n < PW m := by
  have a := (bl_rng (f := lm Z W n) (sz Z W n).toNat (fun j a b => h.2.2.1 j a (by have := h.1; omega))).2
  have b := PW_le (i := (sz Z W n).toNat) (j := m) (by omega)
  exact Int.lt_of_lt_of_le a b
theorem vl_top {Z : Int → Int} {W n : Int} (h : Num Z W n) {m : Nat} (hm : (m : Int) < sz Z W n) : PW m ≤ vl Z W n := by
  have e : sz Z W n = (((sz Z W n).toNat - 1 : Nat) : Int) + 1 := by omega
  have e2 : (sz Z W n).toNat = ((sz Z W n).toNat - 1) + 1 := by omega
  have := bl_top (f := lm Z W n) (k := (sz Z W n).toNat - 1) (fun j a b => h.2.2.1 j a (by omega)) (by rw [← e]; exact h.2.2.2 (by omega))
  unfold vl
  rw [e2]
  exact Int.le_trans (PW_le (by omega)) this
theorem vl_zero {Z : Int → Int} {W n : Int} (h : Num Z W n) : vl Z W n = 0 ↔ sz Z W n = 0 := by
  have h0 := h.1
  constructor
  · intro e
    by_cases q : sz Z W n = 0
    · exact q
    · have := vl_top h (m := 0) (by omega)
      rw [e] at this
      exact absurd this (by decide)
  · intro e
    unfold vl
    rw [e]
    rfl
/-- a size is no more than a bound of the value says -/
theorem sz_le {Z : Int → Int} {W n : Int} (h : Num Z W n) {m : Nat} (hm : vl Z W n < PW m) : sz Z W n ≤ (m : Int) := by
  by_cases q : sz Z W n ≤ (m : Int)
  · exact q
  · have := vl_top h (m := m) (by omega)
    omega
theorem Num.congr {Z Z' : Int → Int} {W n : Int} (h : Num Z W n) (e : ∀ j : Int, 0 ≤ j → j < W → Z' (W * n + j) = Z (W * n + j)) : Num Z' W n ∧ vl Z' W n = vl Z W n ∧ sz Z' W n = sz Z W n := by
  have e0 : sz Z' W n = sz Z W n := by
    have := e 0 (Int.le_refl _) (by have := h.1; have := h.2.1; omega)
    unfold sz
    rw [Int.add_zero] at this
    exact this
  have el : ∀ j : Int, 0 ≤ j → j < W → lm Z' W n j = lm Z W n j := e
  have h1 := h.2.1
  refine ⟨⟨by rw [e0]; exact h.1, by rw [e0]; exact h.2.1, fun j a b => ?_, fun p => ?_⟩, ?_, e0⟩
  · rw [e0] at b
    rw [el j (by omega) (by omega)]
    exact h.2.2.1 j a b
  · rw [e0] at p ⊢
    rw [el _ (by omega) (by omega)]
    exact h.2.2.2 p
  · unfold vl
    rw [e0]
    exact bl_congr _ fun j a b => el j (by omega) (by omega)
/-- numbers lie apart -/
theorem apart {W a b : Int} (hW : 0 < W) (n : a ≠ b) {i : Int} (hi : W * a ≤ i ∧ i < W * a + W) : ¬ (W * b ≤ i ∧ i < W * b + W) := by
  intro h
  rcases Int.lt_or_gt_of_ne n with q | q
  · have := Int.mul_le_mul_of_nonneg_left (show a + 1 ≤ b by omega) (Int.le_of_lt hW)
    rw [Int.mul_add, Int.mul_one] at this
    omega
  · have := Int.mul_le_mul_of_nonneg_left (show b + 1 ≤ a by omega) (Int.le_of_lt hW)
    rw [Int.mul_add, Int.mul_one] at this
    omega
/-- comparing from the top -/
theorem cmp_at {f g : Int → Int} {k m : Nat} (hk : k + 1 ≤ m) (hf : ∀ j : Int, 1 ≤ j → 0 ≤ f j ∧ f j < 16777216) (hg : ∀ j : Int, 1 ≤ j → 0 ≤ g j ∧ g j < 16777216) (e : ∀ j : Int, (k : Int) + 1 < j → j ≤ (m : Int) → f j = g j) : (f ((k : Int) + 1) < g ((k : Int) + 1) → bl f m < bl g m) ∧ (g ((k : Int) + 1) < f ((k : Int) + 1) → bl g m < bl f m) := by
  have u := bl_up (f := f) (g := g) (k := k + 1) m hk (fun j a b => e j (by omega) b)
  refine ⟨fun p => ?_, fun p => ?_⟩
  · have := bl_lt (f := f) (g := g) (k := k) (fun j a _ => hf j a) (fun j a _ => hg j a) p
    omega
  · have := bl_lt (f := g) (g := f) (k := k) (fun j a _ => hg j a) (fun j a _ => hf j a) p
    omega
/-- machine words: masks and shifts -/
theorem h_and32 (v : Int) : (Int32.ofInt v &&& Int32.ofInt 16777215).toInt = v % 16777216 := by
  have e1 : (Int32.ofInt v &&& Int32.ofInt 16777215).toInt = (BitVec.ofInt 32 v &&& BitVec.ofInt 32 16777215).toInt := rfl
  have e2 : (BitVec.ofInt 32 v &&& BitVec.ofInt 32 16777215).toNat = (v % 4294967296).toNat % 16777216 := by
    rw [BitVec.toNat_and, BitVec.toNat_ofInt, BitVec.toNat_ofInt]
    have e3 : ((16777215 : Int) % ((2 ^ 32 : Nat) : Int)).toNat = 2 ^ 24 - 1 := by decide
    rw [e3, Nat.and_two_pow_sub_one_eq_mod]
    rfl
  rw [e1, BitVec.toInt_eq_toNat_of_lt (by rw [e2]; omega), e2]
  omega
theorem h_and64 (v : Int) : (Int64.ofInt v &&& Int64.ofInt 16777215).toInt = v % 16777216 := by
  have e1 : (Int64.ofInt v &&& Int64.ofInt 16777215).toInt = (BitVec.ofInt 64 v &&& BitVec.ofInt 64 16777215).toInt := rfl
  have e2 : (BitVec.ofInt 64 v &&& BitVec.ofInt 64 16777215).toNat = (v % 18446744073709551616).toNat % 16777216 := by
    rw [BitVec.toNat_and, BitVec.toNat_ofInt, BitVec.toNat_ofInt]
    have e3 : ((16777215 : Int) % ((2 ^ 64 : Nat) : Int)).toNat = 2 ^ 24 - 1 := by decide
    rw [e3, Nat.and_two_pow_sub_one_eq_mod]
    rfl
  rw [e1, BitVec.toInt_eq_toNat_of_lt (by rw [e2]; omega), e2]
  omega
theorem h_and1 (v : Int) : (Int32.ofInt v &&& Int32.ofInt 1).toInt = v % 2 := by
  have e1 : (Int32.ofInt v &&& Int32.ofInt 1).toInt = (BitVec.ofInt 32 v &&& BitVec.ofInt 32 1).toInt := rfl
  have e2 : (BitVec.ofInt 32 v &&& BitVec.ofInt 32 1).toNat = (v % 4294967296).toNat % 2 := by
    rw [BitVec.toNat_and, BitVec.toNat_ofInt, BitVec.toNat_ofInt]
    have e3 : ((1 : Int) % ((2 ^ 32 : Nat) : Int)).toNat = 2 ^ 1 - 1 := by decide
    rw [e3, Nat.and_two_pow_sub_one_eq_mod]
    rfl
  rw [e1, BitVec.toInt_eq_toNat_of_lt (by rw [e2]; omega), e2]
  omega
theorem h_shr24 {v : Int} (hv : -2147483648 ≤ v ∧ v ≤ 2147483647) : (Int32.ofInt v >>> (Int32.ofInt 24 &&& 31)).toInt = v / 16777216 := by
  have e : ((Int32.ofInt 24 &&& 31).toBitVec.smod 32).toNat = 24 := by decide +kernel
  rw [m_ishrX, e, mI_toInt hv, Int.shiftRight_eq_div_pow]
  rfl
theorem h_shr1 {v : Int} (hv : -2147483648 ≤ v ∧ v ≤ 2147483647) : (Int32.ofInt v >>> (Int32.ofInt 1 &&& 31)).toInt = v / 2 := by
  have e : ((Int32.ofInt 1 &&& 31).toBitVec.smod 32).toNat = 1 := by decide +kernel
  rw [m_ishrX, e, mI_toInt hv, Int.shiftRight_eq_div_pow]
  rfl
theorem h_lshr24 {v : Int} (hv : -9223372036854775808 ≤ v ∧ v ≤ 9223372036854775807) : (Int64.ofInt v >>> ((Int32.ofInt 24).toInt64 &&& 63)).toInt = v / 16777216 := by
  have e : (((Int32.ofInt 24).toInt64 &&& 63).toBitVec.smod 64).toNat = 24 := by decide +kernel
  rw [m_lshrX, e, mL_toInt hv, Int.shiftRight_eq_div_pow]
  rfl
/-- what trim() does to a number -/
theorem trim_num {Z Z' : Int → Int} {W n k l : Int} (hW : 0 < W) (hn : 0 ≤ n) (h0 : 0 ≤ k) (hk : k ≤ l) (hl : l < W) (hd : Dg Z W n l) (hz : ∀ j : Int, k < j → j ≤ l → lm Z W n j = 0) (ht : k = 0 ∨ lm Z W n k ≠ 0) (e0 : Z' (W * n) = k) (e : ∀ i : Int, 0 ≤ i → i ≠ W * n → Z' i = Z i) : Num Z' W n ∧ vl Z' W n = bl (lm Z W n) l.toNat ∧ sz Z' W n = k := by
  have hp : 0 ≤ W * n := Int.mul_nonneg (by omega) hn
  have el : ∀ j : Int, 1 ≤ j → lm Z' W n j = lm Z W n j := fun j hj => e _ (by omega) (by omega)
  have es : sz Z' W n = k := e0
  refine ⟨⟨by omega, by omega, fun j a b => ?_, fun p => ?_⟩, ?_, es⟩
  · rw [el j a]
    exact hd j a (by omega)
  · rw [es] at p ⊢
    rw [el k p]
    rcases ht with q | q
    · omega
    · exact q
  · unfold vl
    rw [es, bl_ext (k := k.toNat) l.toNat (by omega) (fun j a b => hz j (by omega) (by omega))]
    exact bl_congr _ fun j a b => el j a
/-- a limb that is read while the sum grows over a -/
theorem add_lb {Z Z0 : Int → Int} {W a b k : Int} (hW : 0 < W) (ha : 0 ≤ a) (hb : 0 ≤ b) (hk : 1 ≤ k) (hkW : k < W) (sb : sz Z0 W b < W) (i4 : ∀ i : Int, 0 ≤ i → ¬ (W * a ≤ i ∧ i < W * a + k) → Z i = Z0 i) (i5 : (sz Z0 W a ≤ k - 1 → Z (W * a) = k - 1) ∧ (k - 1 < sz Z0 W a → Z (W * a) = sz Z0 W a)) : lb Z W b k = lb Z0 W b k ∧ (0 ≤ sz Z0 W b → 0 ≤ sz Z W b) ∧ sz Z W b < W := by
  have hp : 0 ≤ W * a := Int.mul_nonneg (by omega) ha
  have hq : 0 ≤ W * b := Int.mul_nonneg (by omega) hb
  by_cases e : a = b
  · subst e
    have el : lm Z W a k = lm Z0 W a k := i4 _ (by omega) (by omega)
    have es : sz Z W a = Z (W * a) := rfl
    refine ⟨?_, by omega, by omega⟩
    unfold lb
    rw [el]
    by_cases q : k ≤ sz Z0 W a
    · rw [if_pos (by omega), if_pos q]
    · rw [if_neg (by omega), if_neg q]
  · have f : ∀ i : Int, W * b ≤ i → i < W * b + W → Z i = Z0 i := fun i x y => i4 i (by omega) (fun z => apart hW (Ne.symm e) ⟨x, y⟩ ⟨z.1, by omega⟩)
    have es : sz Z W b = sz Z0 W b := f _ (by omega) (by omega)
    refine ⟨?_, by omega, by omega⟩
    unfold lb
    rw [es]
    split
    · exact f _ (by omega) (by omega)
    · rfl
/-- one limb of a sum -/
theorem add_step {Z Z' Z0 : Int → Int} {W a b k c x y : Int} (hW : 0 < W) (ha : 0 ≤ a) (hk : 1 ≤ k) (hkW : k < W) (i6 : Dg Z W a (k - 1)) (i7 : bl (lm Z W a) (k - 1).toNat + c * PW (k - 1).toNat = bl (lb Z0 W a) (k - 1).toNat + bl (lb Z0 W b) (k - 1).toNat) (hx : x = lb Z0 W a k) (hy : y = lb Z0 W b k) (e1 : Z' (W * a + k) = (x + y + c) % 16777216) (e2 : ∀ i : Int, 0 ≤ i → i ≠ W * a + k → i ≠ W * a → Z' i = Z i) : Dg Z' W a k ∧ bl (lm Z' W a) k.toNat + ((x + y + c) / 16777216) * PW k.toNat = bl (lb Z0 W a) k.toNat + bl (lb Z0 W b) k.toNat := by
  have hp : 0 ≤ W * a := Int.mul_nonneg (by omega) ha
  have el : ∀ j : Int, 1 ≤ j → j ≤ k - 1 → lm Z' W a j = lm Z W a j := fun j p q => e2 _ (by omega) (by omega) (by omega)
  have ek : lm Z' W a k = (x + y + c) % 16777216 := e1
  refine ⟨fun j p q => ?_, ?_⟩
  · by_cases w : j = k
    · rw [w, ek]
      omega
    · rw [el j p (by omega)]
      exact i6 j p (by omega)
  · have en : k.toNat = (k - 1).toNat + 1 := by omega
    have ec : (((k - 1).toNat : Nat) : Int) + 1 = k := by omega
    rw [en, bl_s, bl_s, bl_s, ec, ek, ← hx, ← hy, bl_congr (f := lm Z' W a) (g := lm Z W a) _ (fun j p q => el j p (by omega))]
    show _ + _ + _ * (PW (k - 1).toNat * 16777216) = _
    generalize PW (k - 1).toNat = T at *
    generalize bl (lm Z W a) (k - 1).toNat = A at *
    generalize bl (lb Z0 W a) (k - 1).toNat = B at *
    generalize bl (lb Z0 W b) (k - 1).toNat = C at *
    have h1 : (x + y + c) % 16777216 + 16777216 * ((x + y + c) / 16777216) = x + y + c := Int.emod_add_mul_ediv _ _
    have h2 : (x + y + c) % 16777216 * T + (x + y + c) / 16777216 * (T * 16777216) = (x + y + c) * T := by
      rw [← Int.mul_assoc, Int.mul_right_comm, ← Int.add_mul, Int.mul_comm ((x + y + c) / 16777216), h1]
    rw [Int.add_mul, Int.add_mul] at h2
    omega
/-- of the numbers (in row z, their signs in s), those in T alone changed -/
def Ch (W : Int) (z s : Nat) (T : List Int) (h h' : MH) : Prop := Only [z, s] h h' ∧ (∀ i : Int, 0 ≤ i → (∀ n ∈ T, ¬ (W * n ≤ i ∧ i < W * n + W)) → ga h' z i = ga h z i) ∧ ∀ j : Int, 0 ≤ j → j ∉ T → ga h' s j = ga h s j
theorem Ch.refl (W : Int) (z s : Nat) (T : List Int) (h : MH) : Ch W z s T h h := ⟨Only.refl _ _, fun _ _ _ => rfl, fun _ _ _ => rfl⟩
theorem Ch.trans {W : Int} {z s : Nat} {T : List Int} {h h' h'' : MH} (a : Ch W z s T h h') (b : Ch W z s T h' h'') : Ch W z s T h h'' := ⟨a.1.trans b.1, fun i p q => (b.2.1 i p q).trans (a.2.1 i p q), fun j p q => (b.2.2 j p q).trans (a.2.2 j p q)⟩
theorem Ch.mono {W : Int} {z s : Nat} {T U : List Int} {h h' : MH} (a : Ch W z s T h h') (m : ∀ n ∈ T, n ∈ U) : Ch W z s U h h' := ⟨a.1, fun i p q => a.2.1 i p fun n k => q n (m n k), fun j p q => a.2.2 j p fun k => q (m j k)⟩
theorem Ch.at {W : Int} {z s : Nat} {T : List Int} {h h' : MH} (c : Ch W z s T h h') (hW : 0 < W) {n : Int} (hn : 0 ≤ n) (m : n ∉ T) : (∀ j : Int, 0 ≤ j → j < W → ga h' z (W * n + j) = ga h z (W * n + j)) ∧ ga h' s n = ga h s n ∧ sz (ga h' z) W n = sz (ga h z) W n := by
  have e : ∀ j : Int, 0 ≤ j → j < W → ga h' z (W * n + j) = ga h z (W * n + j) := fun j p q => c.2.1 _ (by have := Int.mul_nonneg (Int.le_of_lt hW) hn; omega) fun k hk => apart hW (a := n) (b := k) (fun x => m (by rw [x]; exact hk)) ⟨by omega, by omega⟩
  have e0 := e 0 (Int.le_refl _) hW
  rw [Int.add_zero] at e0
  exact ⟨e, c.2.2 n hn m, e0⟩
theorem Ch.num {W : Int} {z s : Nat} {T : List Int} {h h' : MH} (c : Ch W z s T h h') (hW : 0 < W) {n : Int} (hn : 0 ≤ n) (m : n ∉ T) (N : Num (ga h z) W n) : Num (ga h' z) W n ∧ vl (ga h' z) W n = vl (ga h z) W n ∧ sz (ga h' z) W n = sz (ga h z) W n ∧ ga h' s n = ga h s n := by
  have k := c.at hW hn m
  have q := Num.congr N k.1
  exact ⟨q.1, q.2.1, q.2.2, k.2.1⟩
/-- what copying does -/
theorem copy_num {Z Z' : Int → Int} {W a b : Int} (hW : 0 < W) (hb : 0 ≤ b) (N : Num Z W a) (e : ∀ i : Int, 0 ≤ i → Z' i = if W * b ≤ i ∧ i < W * b + (sz Z W a + 1) then Z (i - W * b + W * a) else Z i) : Num Z' W b ∧ vl Z' W b = vl Z W a ∧ sz Z' W b = sz Z W a := by
  have hp : 0 ≤ W * b := Int.mul_nonneg (by omega) hb
  have h0 := N.1
  have h1 := N.2.1
  have es : sz Z' W b = sz Z W a := by
    unfold sz
    rw [e _ hp, if_pos (by unfold sz at h0; unfold sz; omega)]
    congr 1
    omega
  have el : ∀ j : Int, 1 ≤ j → j ≤ sz Z W a → lm Z' W b j = lm Z W a j := fun j p q => by
    unfold lm
    rw [e _ (by omega), if_pos (by omega)]
    congr 1
    omega
  refine ⟨⟨by omega, by omega, fun j p q => ?_, fun p => ?_⟩, ?_, es⟩
  · rw [el j p (by omega)]
    exact N.2.2.1 j p (by omega)
  · rw [es] at p ⊢
    rw [el _ p (by omega)]
    exact N.2.2.2 p
  · unfold vl
    rw [es]
    exact bl_congr _ fun j p q => el j p (by omega)
/-- limbs as one goes from the highest down: none differed up to k -/
theorem cmp_eq {Z : Int → Int} {W a b m : Int} (A : Num Z W a) (B : Num Z W b) (ha : sz Z W a ≤ m) (hb : sz Z W b ≤ m) (e : ∀ j : Int, 0 < j → j ≤ m → lb Z W a j = lb Z W b j) : vl Z W a = vl Z W b := by
  have := A.1
  rw [vl_lb A (m := m.toNat) (by omega), vl_lb B (m := m.toNat) (by omega)]
  exact bl_congr _ fun j p q => e j (by omega) (by omega)
theorem cmp_ne {Z : Int → Int} {W a b m k : Int} (A : Num Z W a) (B : Num Z W b) (ha : sz Z W a ≤ m) (hb : sz Z W b ≤ m) (hk : 1 ≤ k) (hkm : k ≤ m) (e : ∀ j : Int, k < j → j ≤ m → lb Z W a j = lb Z W b j) : (lb Z W a k < lb Z W b k → vl Z W a < vl Z W b) ∧ (lb Z W b k < lb Z W a k → vl Z W b < vl Z W a) := by
  have := A.1
  rw [vl_lb A (m := m.toNat) (by omega), vl_lb B (m := m.toNat) (by omega)]
  have := cmp_at (f := lb Z W a) (g := lb Z W b) (k := (k - 1).toNat) (m := m.toNat) (by omega) (fun j p => lb_rng A p) (fun j p => lb_rng B p) (fun j p q => e j (by omega) (by omega))
  have ec : (((k - 1).toNat : Nat) : Int) + 1 = k := by omega
  rw [ec] at this
  exact this
/-- one limb of a difference -/
theorem sub_step {Z Z' Z0 : Int → Int} {W a b k c x y : Int} (hW : 0 < W) (ha : 0 ≤ a) (hk : 1 ≤ k) (hkW : k < W) (i6 : Dg Z W a (k - 1)) (i7 : bl (lm Z W a) (k - 1).toNat + bl (lb Z0 W b) (k - 1).toNat = bl (lb Z0 W a) (k - 1).toNat + c * PW (k - 1).toNat) (hx : x = lb Z0 W a k) (hy : y = lb Z0 W b k) (rx : 0 ≤ x ∧ x < 16777216) (ry : 0 ≤ y ∧ y < 16777216) (rc : 0 ≤ c ∧ c ≤ 1) {c' : Int} (hc : c' = if x - y - c < 0 then 1 else 0) (e1 : Z' (W * a + k) = (x - y - c) % 16777216) (e2 : ∀ i : Int, 0 ≤ i → i ≠ W * a + k → Z' i = Z i) : Dg Z' W a k ∧ bl (lm Z' W a) k.toNat + bl (lb Z0 W b) k.toNat = bl (lb Z0 W a) k.toNat + c' * PW k.toNat := by
  have hp : 0 ≤ W * a := Int.mul_nonneg (by omega) ha
  have el : ∀ j : Int, 1 ≤ j → j ≤ k - 1 → lm Z' W a j = lm Z W a j := fun j p q => e2 _ (by omega) (by omega)
  have ek : lm Z' W a k = (x - y - c) % 16777216 := e1
  refine ⟨fun j p q => ?_, ?_⟩
  · by_cases w : j = k
    · rw [w, ek]
      omega
    · rw [el j p (by omega)]
      exact i6 j p (by omega)
  · have en : k.toNat = (k - 1).toNat + 1 := by omega
    have ec : (((k - 1).toNat : Nat) : Int) + 1 = k := by omega
    rw [en, bl_s, bl_s, bl_s, ec, ek, ← hx, ← hy, bl_congr (f := lm Z' W a) (g := lm Z W a) _ (fun j p q => el j p (by omega))]
    show _ + _ + _ = _ + _ + c' * (PW (k - 1).toNat * 16777216)
    generalize PW (k - 1).toNat = T at *
    generalize bl (lm Z W a) (k - 1).toNat = A at *
    generalize bl (lb Z0 W a) (k - 1).toNat = B at *
    generalize bl (lb Z0 W b) (k - 1).toNat = C at *
    have hd : (x - y - c) % 16777216 = x - y - c + 16777216 * c' := by
      rw [hc]
      split <;> omega
    have h2 : (x - y - c) % 16777216 * T = (x - y - c + 16777216 * c') * T := by rw [hd]
    rw [Int.add_mul, Int.sub_mul, Int.sub_mul, Int.mul_right_comm, Int.mul_comm (16777216 * T)] at h2
    have h3 : c' * (T * 16777216) = c' * (16777216 * T) := by rw [Int.mul_comm T]
    omega
/-- one limb of a half -/
theorem half_step {Z Z' Z0 : Int → Int} {W a k y : Int} (hW : 0 < W) (ha : 0 ≤ a) (hk : 1 ≤ k) (hkW : k < W) (r0 : 0 ≤ lm Z0 W a k ∧ lm Z0 W a k < 16777216) (i6 : Dg Z W a (k - 1)) (i7 : 2 * bl (lm Z W a) (k - 1).toNat + lb Z0 W a 1 % 2 = bl (lm Z0 W a) (k - 1).toNat + (lb Z0 W a k % 2) * PW (k - 1).toNat) (hs : k ≤ sz Z0 W a) (hy : y = lb Z0 W a (k + 1) % 2) (e1 : Z' (W * a + k) = lm Z0 W a k / 2 + y * 8388608) (e2 : ∀ i : Int, 0 ≤ i → i ≠ W * a + k → Z' i = Z i) : Dg Z' W a k ∧ 2 * bl (lm Z' W a) k.toNat + lb Z0 W a 1 % 2 = bl (lm Z0 W a) k.toNat + (lb Z0 W a (k + 1) % 2) * PW k.toNat := by
  have hp : 0 ≤ W * a := Int.mul_nonneg (by omega) ha
  have el : ∀ j : Int, 1 ≤ j → j ≤ k - 1 → lm Z' W a j = lm Z W a j := fun j p q => e2 _ (by omega) (by omega)
  have ek : lm Z' W a k = lm Z0 W a k / 2 + y * 8388608 := e1
  have hb : lb Z0 W a k = lm Z0 W a k := if_pos hs
  refine ⟨fun j p q => ?_, ?_⟩
  · by_cases w : j = k
    · rw [w, ek]
      omega
    · rw [el j p (by omega)]
      exact i6 j p (by omega)
  · have en : k.toNat = (k - 1).toNat + 1 := by omega
    have ec : (((k - 1).toNat : Nat) : Int) + 1 = k := by omega
    rw [en, bl_s, bl_s, ec, ek, ← hy, bl_congr (f := lm Z' W a) (g := lm Z W a) _ (fun j p q => el j p (by omega))]
    rw [hb] at i7
    show _ = _ + y * (PW (k - 1).toNat * 16777216)
    generalize PW (k - 1).toNat = T at *
    generalize bl (lm Z W a) (k - 1).toNat = A at *
    generalize bl (lm Z0 W a) (k - 1).toNat = B at *
    generalize lm Z0 W a k = x at *
    have h2 : (2 * (x / 2 + y * 8388608)) * T = (x - x % 2 + y * 16777216) * T := by
      congr 1
      omega
    rw [Int.add_mul, Int.sub_mul, Int.mul_assoc 2, Int.mul_assoc y, Int.mul_comm 16777216] at h2
    omega
theorem half_end {Z0 : Int → Int} {W a v : Int} (A : Num Z0 W a) (h : 2 * v + lb Z0 W a 1 % 2 = vl Z0 W a) : v = vl Z0 W a / 2 ∧ vl Z0 W a % 2 = lb Z0 W a 1 % 2 := by omega
theorem bl_par {f : Int → Int} : ∀ m : Nat, bl f (m + 1) % 2 = f 1 % 2
  | 0 => by
    show (0 + f ((0 : Nat) + 1) * 1) % 2 = _
    rw [Int.zero_add, Int.mul_one]
    rfl
  | m + 1 => by
    rw [bl_s]
    have := bl_par (f := f) m
    show (_ + _ * (PW m * 16777216)) % 2 = _
    have e : f (((m + 1 : Nat) : Int) + 1) * (PW m * 16777216) = 2 * (f (((m + 1 : Nat) : Int) + 1) * (PW m * 8388608)) := by
      rw [← Int.mul_assoc (f (((m + 1 : Nat) : Int) + 1)) (PW m) 16777216, ← Int.mul_assoc (f (((m + 1 : Nat) : Int) + 1)) (PW m) 8388608]
      omega
    omega
theorem vl_par {Z : Int → Int} {W n : Int} (N : Num Z W n) : vl Z W n % 2 = lb Z W n 1 % 2 := by
  rw [vl_lb N (m := (sz Z W n).toNat + 1) (by have := N.1; omega)]
  exact bl_par _
/-- a limb changed -/
theorem bl_set {f g : Int → Int} {p : Int} (hp : 1 ≤ p) (e : ∀ j : Int, 1 ≤ j → j ≠ p → g j = f j) : ∀ m : Nat, p ≤ (m : Int) → bl g m = bl f m + (g p - f p) * PW (p - 1).toNat
  | 0, h => by omega
  | m + 1, h => by
    rw [bl_s, bl_s]
    by_cases q : p = (m : Int) + 1
    · rw [bl_congr (f := g) (g := f) m (fun j a b => e j a (by omega)), q]
      have : ((m : Int) + 1 - 1).toNat = m := by omega
      rw [this, Int.sub_mul]
      omega
    · rw [bl_set hp e m (by omega), e _ (by omega) (fun w => q w.symm)]
      omega
theorem PW_add : ∀ i j : Nat, PW (i + j) = PW i * PW j
  | i, 0 => by
    show _ = _ * 1
    rw [Int.mul_one]
    rfl
  | i, j + 1 => by
    show PW (i + j) * 16777216 = PW i * (PW j * 16777216)
    rw [PW_add i j, Int.mul_assoc]
theorem h_lshl24 {v : Int} (hv : 0 ≤ v) (h2 : v < 549755813888) : (Int64.ofInt v <<< ((Int32.ofInt 24).toInt64 &&& 63)).toInt = v * 16777216 := by
  have e : (((Int32.ofInt 24).toInt64 &&& 63).toBitVec.smod 64).toNat = 24 := by decide +kernel
  have e1 : (Int64.ofInt v <<< ((Int32.ofInt 24).toInt64 &&& 63)).toInt = ((BitVec.ofInt 64 v) <<< (((Int32.ofInt 24).toInt64 &&& 63).toBitVec.smod 64).toNat).toInt := rfl
  rw [e1, e]
  have e2 : ((BitVec.ofInt 64 v) <<< 24).toNat = (v * 16777216).toNat := by
    have p64 : (2 : Nat) ^ 64 = 18446744073709551616 := by decide +kernel
    have p24 : (2 : Nat) ^ 24 = 16777216 := by decide +kernel
    rw [BitVec.toNat_shiftLeft, BitVec.toNat_ofInt, Nat.shiftLeft_eq, p64, p24]
    have : (v % ((18446744073709551616 : Nat) : Int)).toNat = v.toNat := by omega
    rw [this]
    omega
  have e3 : 2 * ((BitVec.ofInt 64 v) <<< 24).toNat < 2 ^ 64 := by
    have p64 : (2 : Nat) ^ 64 = 18446744073709551616 := by decide +kernel
    rw [e2, p64]
    omega
  rw [BitVec.toInt_eq_toNat_of_lt e3, e2]
  omega
theorem h_shl23 {y : Int} (h0 : 0 ≤ y) (h1 : y ≤ 1) : (Int32.ofInt y <<< (Int32.ofInt 23 &&& 31)).toInt = y * 8388608 := by
  have : y = 0 ∨ y = 1 := by omega
  rcases this with e | e <;> subst e <;> decide +kernel
/-- a limb that is read while a number below it changes -/
theorem sub_lb {Z Z0 : Int → Int} {W a b k : Int} (hW : 0 < W) (ha : 0 ≤ a) (hb : 0 ≤ b) (hk : 1 ≤ k) (hkW : k < W) (i4 : ∀ i : Int, 0 ≤ i → ¬ (W * a + 1 ≤ i ∧ i < W * a + k) → Z i = Z0 i) : lb Z W b k = lb Z0 W b k ∧ sz Z W b = sz Z0 W b ∧ lm Z W b k = lm Z0 W b k := by
  have hp : 0 ≤ W * a := Int.mul_nonneg (by omega) ha
  have hq : 0 ≤ W * b := Int.mul_nonneg (by omega) hb
  have f : ∀ j : Int, j = 0 ∨ j = k → Z (W * b + j) = Z0 (W * b + j) := fun j hj => by
    refine i4 _ (by omega) fun z => ?_
    by_cases e : a = b
    · subst e
      omega
    · exact apart hW e (i := W * b + j) ⟨by omega, by omega⟩ ⟨by omega, by omega⟩
  have e0 : sz Z W b = sz Z0 W b := by
    have := f 0 (Or.inl rfl)
    rw [Int.add_zero] at this
    exact this
  have e1 : lm Z W b k = lm Z0 W b k := f k (Or.inr rfl)
  refine ⟨?_, e0, e1⟩
  unfold lb
  rw [e0, e1]
theorem sub_end {X V U c P : Int} (h : X + V = U + c * P) (hc : 0 ≤ c ∧ c ≤ 1) (hX : X < P) (hV : V ≤ U) : X = U - V := by
  have : c = 0 ∨ c = 1 := by omega
  rcases this with e | e
  · subst e
    rw [Int.zero_mul] at h
    omega
  · subst e
    rw [Int.one_mul] at h
    omega
/-- one limb of a quotient by a small number -/
theorem div_step {g g' f : Int → Int} {m r x q r' k s : Int} (hk : 1 ≤ k) (hks : k ≤ s) (e : ∀ j : Int, 1 ≤ j → j ≠ k → g' j = g j) (eq : g' k = q) (ex : f k = x) (hv : m * q + r' = r * 16777216 + x) (i7 : m * (bl g s.toNat - bl g k.toNat) + r * PW k.toNat = bl f s.toNat - bl f k.toNat) : m * (bl g' s.toNat - bl g' (k - 1).toNat) + r' * PW (k - 1).toNat = bl f s.toNat - bl f (k - 1).toNat := by
  have en : k.toNat = (k - 1).toNat + 1 := by omega
  have ec : (((k - 1).toNat : Nat) : Int) + 1 = k := by omega
  have u := bl_up (f := g') (g := g) (k := k.toNat) s.toNat (by omega) (fun j a b => e j (by omega) (by omega))
  have w1 := bl_s g' (k - 1).toNat
  have w2 := bl_s f (k - 1).toNat
  rw [← en, ec, eq] at w1
  rw [← en, ec, ex] at w2
  have hP : PW k.toNat = PW (k - 1).toNat * 16777216 := by rw [en]; rfl
  rw [hP] at i7
  generalize PW (k - 1).toNat = T at *
  have d1 : bl g' s.toNat - bl g' (k - 1).toNat = (bl g s.toNat - bl g k.toNat) + q * T := by omega
  have d2 : bl f s.toNat - bl f (k - 1).toNat = (bl f s.toNat - bl f k.toNat) + x * T := by omega
  rw [d1, d2, ← i7, Int.mul_add]
  have h2 : (m * q + r') * T = (r * 16777216 + x) * T := by rw [hv]
  rw [Int.add_mul, Int.add_mul, Int.mul_assoc m, Int.mul_assoc r, Int.mul_comm 16777216] at h2
  omega
theorem div_q {v m : Int} (hv : 0 ≤ v) (hm : 1 ≤ m) (hb : v < m * 16777216) : 0 ≤ v.tdiv m ∧ v.tdiv m < 16777216 ∧ 0 ≤ v.tmod m ∧ v.tmod m < m ∧ m * v.tdiv m + v.tmod m = v := by
  rw [Int.tdiv_eq_ediv_of_nonneg hv, Int.tmod_eq_emod_of_nonneg hv]
  refine ⟨Int.ediv_nonneg hv (by omega), ?_, Int.emod_nonneg _ (by omega), Int.emod_lt_of_pos _ (by omega), ?_⟩
  · exact Int.ediv_lt_of_lt_mul (by omega) (by rw [Int.mul_comm]; exact hb)
  · rw [Int.add_comm]
    exact Int.emod_add_mul_ediv v m
theorem small_step {Z Z' : Int → Int} {W n S y V : Int} (h0 : 0 ≤ S) (i6 : Dg Z W n S) (i7 : bl (lm Z W n) S.toNat + y * PW S.toNat = V) (e1 : Z' (W * n + (S + 1)) = y % 16777216) (e : ∀ j : Int, 1 ≤ j → j ≤ S → Z' (W * n + j) = Z (W * n + j)) : Dg Z' W n (S + 1) ∧ bl (lm Z' W n) (S + 1).toNat + (y / 16777216) * PW (S + 1).toNat = V := by
  have ek : lm Z' W n (S + 1) = y % 16777216 := e1
  refine ⟨fun j p q => ?_, ?_⟩
  · by_cases w : j = S + 1
    · rw [w, ek]
      omega
    · have : lm Z' W n j = lm Z W n j := e j p (by omega)
      rw [this]
      exact i6 j p (by omega)
  · have en : (S + 1).toNat = S.toNat + 1 := by omega
    have ec : ((S.toNat : Nat) : Int) + 1 = S + 1 := by omega
    rw [en, bl_s, ec, ek, bl_congr (f := lm Z' W n) (g := lm Z W n) _ (fun j p q => e j p (by omega)), ← i7]
    show _ + _ + _ * (PW S.toNat * 16777216) = _
    generalize PW S.toNat = T
    have h1 : (y % 16777216 + 16777216 * (y / 16777216)) * T = y * T := by rw [Int.emod_add_mul_ediv]
    rw [Int.add_mul, Int.mul_comm 16777216, Int.mul_assoc] at h1
    have h2 : y / 16777216 * (T * 16777216) = y / 16777216 * (16777216 * T) := by rw [Int.mul_comm T]
    omega
/-- powers of two -/
def PD : Nat → Int
  | 0 => 1
  | n + 1 => 2 * PD n
theorem PD_pos : ∀ n, 0 < PD n
  | 0 => by decide
  | n + 1 => by
    have := PD_pos n
    unfold PD
    omega
theorem PD_le : ∀ {i j : Nat}, i ≤ j → PD i ≤ PD j
  | i, 0, h => by
    have : i = 0 := by omega
    rw [this]
    exact Int.le_refl _
  | i, j + 1, h => by
    by_cases e : i = j + 1
    · rw [e]
      exact Int.le_refl _
    · have := PD_le (i := i) (j := j) (by omega)
      have := PD_pos j
      show _ ≤ 2 * PD j
      omega
theorem PD_add : ∀ i j : Nat, PD (i + j) = PD i * PD j
  | i, 0 => by
    show _ = _ * 1
    rw [Int.mul_one]
    rfl
  | i, j + 1 => by
    show 2 * PD (i + j) = PD i * (2 * PD j)
    rw [PD_add i j, Int.mul_left_comm]
theorem PW_PD : ∀ k : Nat, PW k = PD (24 * k)
  | 0 => rfl
  | k + 1 => by
    show PW k * 16777216 = PD (24 * k + 24)
    rw [PD_add, PW_PD k]
    rfl
theorem PD_lt_of {i j : Nat} (h : PD i < PD j) : i < j := by
  by_cases q : i < j
  · exact q
  · have := PD_le (i := j) (j := i) (by omega)
    omega
theorem bits_step {c x t : Int} (hc : 0 ≤ c) (ht : 0 < t) (hx : x < 16777216) (i1 : PD c.toNat * t ≤ x) (i2 : x < PD c.toNat * (t + 1)) : c + 1 ≤ 24 ∧ PD c.toNat ≤ x ∧ PD (c + 1).toNat * (t / 2) ≤ x ∧ x < PD (c + 1).toNat * (t / 2 + 1) := by
  have hp := PD_pos c.toNat
  have e1 : PD c.toNat * 1 ≤ PD c.toNat * t := Int.mul_le_mul_of_nonneg_left (by omega) (by omega)
  rw [Int.mul_one] at e1
  have e2 : PD c.toNat < PD 24 := by
    have : PD 24 = 16777216 := by decide
    omega
  have e3 := PD_lt_of e2
  have en : (c + 1).toNat = c.toNat + 1 := by omega
  rw [en]
  show _ ∧ _ ∧ 2 * PD c.toNat * _ ≤ _ ∧ _ < 2 * PD c.toNat * _
  have e4 : 2 * PD c.toNat * (t / 2) = PD c.toNat * (2 * (t / 2)) := by rw [Int.mul_comm 2, Int.mul_assoc]
  have e5 : 2 * PD c.toNat * (t / 2 + 1) = PD c.toNat * (2 * (t / 2 + 1)) := by rw [Int.mul_comm 2, Int.mul_assoc]
  have e6 : PD c.toNat * (2 * (t / 2)) ≤ PD c.toNat * t := Int.mul_le_mul_of_nonneg_left (by omega) (by omega)
  have e7 : PD c.toNat * (t + 1) ≤ PD c.toNat * (2 * (t / 2 + 1)) := Int.mul_le_mul_of_nonneg_left (by omega) (by omega)
  omega
theorem bits_end {Z : Int → Int} {W a c : Int} (N : Num Z W a) (hs : 1 ≤ sz Z W a) (hc : 0 ≤ c) (h1 : lb Z W a (sz Z W a) < PD c.toNat) (h2 : 1 ≤ c → PD (c - 1).toNat ≤ lb Z W a (sz Z W a)) : vl Z W a < PD (24 * (sz Z W a - 1) + c).toNat ∧ 1 ≤ c ∧ PD (24 * (sz Z W a - 1) + c - 1).toNat ≤ vl Z W a := by
  have en : (sz Z W a).toNat = (sz Z W a - 1).toNat + 1 := by omega
  have ec : (((sz Z W a - 1).toNat : Nat) : Int) + 1 = sz Z W a := by omega
  have hx : lb Z W a (sz Z W a) = lm Z W a (sz Z W a) := if_pos (by omega)
  have r := bl_rng (f := lm Z W a) (sz Z W a - 1).toNat (fun j p q => N.2.2.1 j p (by omega))
  have hn := N.2.2.2 hs
  have hr := N.2.2.1 (sz Z W a) hs (by omega)
  have hv : vl Z W a = bl (lm Z W a) (sz Z W a - 1).toNat + lm Z W a (sz Z W a) * PW (sz Z W a - 1).toNat := by
    unfold vl
    rw [en, bl_s, ec]
  rw [hx] at h1 h2
  have hc1 : 1 ≤ c := by
    by_cases q : 1 ≤ c
    · exact q
    · have : c.toNat = 0 := by omega
      rw [this] at h1
      have : PD 0 = 1 := rfl
      omega
  have h2 := h2 hc1
  have hP : PW (sz Z W a - 1).toNat = PD (24 * (sz Z W a - 1)).toNat := by
    rw [PW_PD]
    congr 1
    omega
  have e1 : (24 * (sz Z W a - 1) + c).toNat = c.toNat + (24 * (sz Z W a - 1)).toNat := by omega
  have e2 : (24 * (sz Z W a - 1) + c - 1).toNat = (c - 1).toNat + (24 * (sz Z W a - 1)).toNat := by omega
  rw [hv, e1, e2, PD_add, PD_add, ← hP]
  have p := PW_pos (sz Z W a - 1).toNat
  generalize PW (sz Z W a - 1).toNat = T at *
  generalize bl (lm Z W a) (sz Z W a - 1).toNat = B at *
  generalize lm Z W a (sz Z W a) = x at *
  have q1 : (x + 1) * T ≤ PD c.toNat * T := Int.mul_le_mul_of_nonneg_right (by omega) (by omega)
  have q2 : PD (c - 1).toNat * T ≤ x * T := Int.mul_le_mul_of_nonneg_right h2 (by omega)
  rw [Int.add_mul, Int.one_mul] at q1
  exact ⟨by omega, hc1, by omega⟩
/-- one limb of a product: at place p of the row that comes -/
theorem prod_step {g g' : Int → Int} {V c x y i j L : Int} (hi : 1 ≤ i) (hj : 1 ≤ j) (hL : i + j - 1 ≤ L) (e : ∀ q : Int, 1 ≤ q → q ≠ i + j - 1 → g' q = g q) (e1 : g' (i + j - 1) = (c + g (i + j - 1) + x * y) % 16777216) {A B C : Int} (i7 : bl g L.toNat + c * PW (i + j - 2).toNat = A + x * B * PW (i - 1).toNat) (hC : C = B + y * PW (j - 1).toNat) : bl g' L.toNat + ((c + g (i + j - 1) + x * y) / 16777216) * PW (i + j - 1).toNat = A + x * C * PW (i - 1).toNat := by
  have s := bl_set (f := g) (g := g') (p := i + j - 1) (by omega) e L.toNat (by omega)
  have en : (i + j - 1).toNat = (i + j - 2).toNat + 1 := by omega
  have e2 : (i + j - 1 - 1).toNat = (i + j - 2).toNat := by omega
  have e3 : PW (i + j - 2).toNat = PW (j - 1).toNat * PW (i - 1).toNat := by
    rw [← PW_add]
    congr 1
    omega
  rw [s, e1, e2, en]
  show _ + _ + _ * (PW (i + j - 2).toNat * 16777216) = _
  generalize hT : PW (i + j - 2).toNat = T at *
  generalize g (i + j - 1) = u at *
  generalize hU : PW (i - 1).toNat = U at *
  generalize PW (j - 1).toNat = Y at *
  have h1 : ((c + u + x * y) % 16777216 + 16777216 * ((c + u + x * y) / 16777216)) * T = (c + u + x * y) * T := by rw [Int.emod_add_mul_ediv]
  rw [Int.add_mul, Int.add_mul, Int.add_mul, Int.mul_comm 16777216, Int.mul_assoc] at h1
  have h2 : (c + u + x * y) / 16777216 * (T * 16777216) = (c + u + x * y) / 16777216 * (16777216 * T) := by rw [Int.mul_comm T]
  have h3 : x * C * U = x * B * U + x * y * T := by
    rw [hC, e3, Int.mul_add, Int.add_mul, ← Int.mul_assoc x y Y, Int.mul_assoc (x * y)]
  have h4 : ((c + u + x * y) % 16777216 - u) * T = (c + u + x * y) % 16777216 * T - u * T := Int.sub_mul _ _ _
  omega
theorem mul24 {x y : Int} (hx : 0 ≤ x ∧ x < 16777216) (hy : 0 ≤ y ∧ y < 16777216) : 0 ≤ x * y ∧ x * y ≤ 281474943156225 := by
  refine ⟨Int.mul_nonneg hx.1 hy.1, ?_⟩
  have h1 : x * y ≤ 16777215 * y := Int.mul_le_mul_of_nonneg_right (by omega) hy.1
  omega
theorem sgn_mul {x y : Int} (hx : -1 ≤ x ∧ x ≤ 1) (hy : -1 ≤ y ∧ y ≤ 1) : -1 ≤ x * y ∧ x * y ≤ 1 := by
  have : x = -1 ∨ x = 0 ∨ x = 1 := by omega
  rcases this with e | e | e <;> subst e <;> omega
/-- the last limb of a row of a product -/
theorem prod_row {g g' fa : Int → Int} {c i L sb vb : Int} (hi : 1 ≤ i) (hs : 0 ≤ sb) (hL : i + sb ≤ L) (e : ∀ q : Int, 1 ≤ q → q ≠ i + sb → g' q = g q) (e1 : g' (i + sb) = c) (e0 : g (i + sb) = 0) (i7 : bl g L.toNat + c * PW (i + sb - 1).toNat = bl fa (i - 1).toNat * vb + fa i * vb * PW (i - 1).toNat) : bl g' L.toNat = bl fa i.toNat * vb := by
  have s := bl_set (f := g) (g := g') (p := i + sb) (by omega) e L.toNat (by omega)
  have en : i.toNat = (i - 1).toNat + 1 := by omega
  have ec : (((i - 1).toNat : Nat) : Int) + 1 = i := by omega
  rw [s, e1, e0, Int.sub_zero, i7, en, bl_s, ec, Int.add_mul, Int.mul_right_comm]
