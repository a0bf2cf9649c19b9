/-! X1: division, pure -/
theorem nv1_nn1 {f : Int → Int} {n : Nat} (d : Dg1 f ((n + 1 : Nat) : Int)) : nv1 f (n + 1) < (f (n : Int) + 1) * 1073741824 ^ n ∧ f (n : Int) * 1073741824 ^ n ≤ nv1 f (n + 1) := by
  have a := nv1_b (f := f) (n := n) fun j a b => d j a (by omega)
  rw [nv1_2, Int.add_mul, Int.one_mul]
  omega
/-- a number moved up by a normal shift: its top limb, nothing goes beyond -/
theorem norm1 {f g : Int → Int} {n : Nat} {P c : Int} {k : Nat} (hk : k ≤ 29) (eP : P = 2 ^ k) (df : Dg1 f ((n + 1 : Nat) : Int)) (dg : Dg1 g ((n + 1 : Nat) : Int)) (c0 : 0 ≤ c) (e : nv1 g (n + 1) + c * 1073741824 ^ (n + 1) = P * nv1 f (n + 1)) (h1 : 536870912 ≤ f (n : Int) * P) (h2 : f (n : Int) * P < 1073741824) : c = 0 ∧ 536870912 ≤ g (n : Int) := by
  have pb := p2_b (n := k) (by omega)
  rw [← eP] at pb
  have a := nv1_nn1 df
  have b := nv1_nn1 dg
  have pn := p30_pos n
  have p0 : 0 ≤ P := by omega
  have a1 := Int.mul_le_mul_of_nonneg_left (Int.le_of_lt a.1) p0
  have a2 := Int.mul_le_mul_of_nonneg_left a.2 p0
  have z : (f (n : Int) + 1) * P ≤ 1073741824 := by
    -- f P is a multiple of P below a multiple
    have m : f (n : Int) * P < 2 ^ (30 - k) * P := by
      rw [Int.mul_comm (2 ^ (30 - k)), pb.2.2]
      exact h2
    have m2 := Int.lt_of_mul_lt_mul_right m p0
    have m3 := Int.mul_le_mul_of_nonneg_right (show f (n : Int) + 1 ≤ 2 ^ (30 - k) by omega) p0
    rw [Int.mul_comm (2 ^ (30 - k)), pb.2.2] at m3
    exact m3
  have z1 := Int.mul_le_mul_of_nonneg_right z (Int.le_of_lt pn)
  have e1 : P * ((f (n : Int) + 1) * 1073741824 ^ n) = (f (n : Int) + 1) * P * 1073741824 ^ n := by rw [← Int.mul_assoc, Int.mul_comm P]
  have e2 : P * (f (n : Int) * 1073741824 ^ n) = f (n : Int) * P * 1073741824 ^ n := by rw [← Int.mul_assoc, Int.mul_comm P]
  rw [e1] at a1
  rw [e2] at a2
  have lt1 : P * nv1 f (n + 1) < 1073741824 ^ (n + 1) := by
    rw [p30_s]
    have s1 : P * nv1 f (n + 1) < P * ((f (n : Int) + 1) * 1073741824 ^ n) := Int.mul_lt_mul_of_pos_left a.1 (by omega)
    rw [e1] at s1
    omega
  have gb := (nv1_b (f := g) (n := n + 1) dg).1
  have c9 : c = 0 := by
    by_cases q : c = 0
    · exact q
    · exfalso
      have := Int.mul_le_mul_of_nonneg_right (show 1 ≤ c by omega) (Int.le_of_lt (p30_pos (n + 1)))
      omega
  refine ⟨c9, ?_⟩
  rw [c9, Int.zero_mul, Int.add_zero] at e
  have t1 := Int.mul_le_mul_of_nonneg_right h1 (Int.le_of_lt pn)
  by_cases q : 536870912 ≤ g (n : Int)
  · exact q
  · exfalso
    have := Int.mul_le_mul_of_nonneg_right (show g (n : Int) + 1 ≤ 536870912 by omega) (Int.le_of_lt pn)
    omega
/-- the limbs from k on, when those behind a window are 0 -/
theorem uv1_win {f : Int → Int} {k : Int} {n m : Nat} (h : n ≤ m) (z : ∀ x : Int, k + n ≤ x → x < k + m → f x = 0) : uv1 f k m = uv1 f k n := nv1_zero h fun j a b => z _ (by omega) (by omega)
/-- what the quotient and the rest are at the end -/
theorem div_end {P U S D N Qn rem : Int} (P0 : 0 < P) (eU : U = P * D) (eS : S = P * N) (e : rem + Qn * S = U) (r0 : 0 ≤ rem) (rS : rem < S) : Qn = D / N ∧ rem = P * (D % N) := by
  have N0 : 0 < N := by
    by_cases w : 0 < N
    · exact w
    · exfalso
      have := Int.mul_le_mul_of_nonneg_left (show N ≤ 0 by omega) (Int.le_of_lt P0)
      rw [Int.mul_zero] at this
      omega
  have e1 : rem = P * (D - Qn * N) := by
    rw [eS, eU] at e
    have : Qn * (P * N) = P * (Qn * N) := Int.mul_left_comm _ _ _
    rw [Int.mul_sub]
    omega
  have a : 0 ≤ D - Qn * N := by
    by_cases w : 0 ≤ D - Qn * N
    · exact w
    · exfalso
      have := Int.mul_lt_mul_of_pos_left (show D - Qn * N < 0 by omega) P0
      rw [Int.mul_zero] at this
      omega
  have b : D - Qn * N < N := by
    rw [e1, eS] at rS
    exact Int.lt_of_mul_lt_mul_left rS (Int.le_of_lt P0)
  have q : D / N = Qn := by
    have : D = (D - Qn * N) + N * Qn := by
      rw [Int.mul_comm]
      omega
    rw [this, Int.add_mul_ediv_left _ _ (by omega), Int.ediv_eq_zero_of_lt a b]
    omega
  refine ⟨q.symm, ?_⟩
  rw [e1]
  congr 1
  have := Int.emod_add_mul_ediv D N
  rw [q, Int.mul_comm] at this
  omega
/-- one limb moved down: what the part below holds -/
theorem down1 {V X r u v b d P : Int} {k : Nat} (h : P * V + r = X + u * 1073741824 ^ k) (e : P * b = d - u + v * 1073741824) : P * (V + b * 1073741824 ^ k) + r = X + d * 1073741824 ^ k + v * 1073741824 ^ (k + 1) := by
  rw [p30_s, Int.mul_add, ← Int.mul_assoc, e, Int.add_mul, Int.sub_mul, Int.mul_assoc v]
  omega
theorem rest_eq {P n r d : Int} (e : P * n + r = P * d) (r0 : 0 ≤ r) (r1 : r < P) : n = d := by
  have e : P * (d - n) = r := by
    rw [Int.mul_sub]
    omega
  have z : d - n = 0 := by
    by_cases w : d - n = 0
    · exact w
    · exfalso
      by_cases w2 : 1 ≤ d - n
      · have := Int.mul_le_mul_of_nonneg_left w2 (show 0 ≤ P by omega)
        omega
      · have := Int.mul_le_mul_of_nonneg_left (show d - n ≤ -1 by omega) (show 0 ≤ P by omega)
        omega
  omega
theorem mem1 {a : Nat} {l : List Nat} (h : a ∈ l) : ∀ c ∈ [a], c ∈ l := fun c hc => by
  rw [List.mem_singleton.mp hc]
  exact h
theorem div_ring {n b r q u S : Int} : n + b * r + b * (q + 1073741824 * u) * S = n + b * (r + S * q) + 1073741824 * b * u * S := by grind
