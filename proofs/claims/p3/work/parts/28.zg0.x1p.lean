/-! X1: numbers of limbs of 30 bits, pure -/
def nv1 (f : Int → Int) : Nat → Int
  | 0 => 0
  | n + 1 => nv1 f n + f (n : Int) * 1073741824 ^ n
def Dg1 (f : Int → Int) (n : Int) : Prop := ∀ j : Int, 0 ≤ j → j < n → 0 ≤ f j ∧ f j ≤ 1073741823
theorem p30_pos (k : Nat) : (0 : Int) < 1073741824 ^ k := Int.pow_pos (by decide)
theorem p30_s (k : Nat) : (1073741824 : Int) ^ (k + 1) = 1073741824 * 1073741824 ^ k := by rw [Int.pow_succ, Int.mul_comm]
theorem p30_mono {a b : Nat} (h : a ≤ b) : (1073741824 : Int) ^ a ≤ 1073741824 ^ b := pmono (by decide) h
theorem nv1_cg {f g : Int → Int} : ∀ {n : Nat}, (∀ j : Int, 0 ≤ j → j < (n : Int) → f j = g j) → nv1 f n = nv1 g n
  | 0, _ => rfl
  | n + 1, e => by
    show nv1 f n + f (n : Int) * 1073741824 ^ n = nv1 g n + g (n : Int) * 1073741824 ^ n
    rw [e _ (by omega) (by omega), nv1_cg (n := n) fun j a b => e j a (by omega)]
theorem nv1_b {f : Int → Int} : ∀ {n : Nat}, Dg1 f n → 0 ≤ nv1 f n ∧ nv1 f n < 1073741824 ^ n
  | 0, _ => ⟨Int.le_refl _, by show (0 : Int) < 1; decide⟩
  | n + 1, d => by
    have a := nv1_b (f := f) (n := n) fun j a b => d j a (by omega)
    have b := d (n : Int) (by omega) (by omega)
    have e := p30_s n
    have g : nv1 f (n + 1) = nv1 f n + f (n : Int) * 1073741824 ^ n := rfl
    have p := p30_pos n
    have x := Int.mul_nonneg b.1 (Int.le_of_lt p)
    have y := Int.mul_le_mul_of_nonneg_right b.2 (Int.le_of_lt p)
    rw [g, e]
    omega
theorem nv1_zero {f : Int → Int} {n : Nat} : ∀ {m : Nat}, n ≤ m → (∀ j : Int, (n : Int) ≤ j → j < (m : Int) → f j = 0) → nv1 f m = nv1 f n
  | 0, h, _ => by rw [Nat.le_zero.mp h]
  | m + 1, h, z => by
    by_cases q : n = m + 1
    · rw [q]
    · show nv1 f m + f (m : Int) * 1073741824 ^ m = nv1 f n
      rw [z (m : Int) (by omega) (by omega), Int.zero_mul, Int.add_zero, nv1_zero (m := m) (by omega) fun j a b => z j a (by omega)]
theorem nv1_top {f : Int → Int} {n : Nat} (d : Dg1 f n) (t : 1 ≤ f (n : Int)) : 1073741824 ^ n ≤ nv1 f (n + 1) := by
  have a := (nv1_b d).1
  have b := Int.mul_le_mul_of_nonneg_right t (Int.le_of_lt (p30_pos n))
  have g : nv1 f (n + 1) = nv1 f n + f (n : Int) * 1073741824 ^ n := rfl
  rw [g]
  omega
/-- the upper limbs, from k on, so many -/
def uv1 (f : Int → Int) (k : Int) (n : Nat) : Int := nv1 (fun j => f (k + j)) n
theorem uv1_s (f : Int → Int) (k : Int) (n : Nat) : uv1 f k (n + 1) = f k + 1073741824 * uv1 f (k + 1) n := by
  induction n with
  | zero =>
    show 0 + f (k + 0) * 1 = f k + 1073741824 * 0
    rw [Int.add_zero]
    omega
  | succ n ih =>
    have e1 : uv1 f k (n + 1 + 1) = uv1 f k (n + 1) + f (k + ((n + 1 : Nat) : Int)) * 1073741824 ^ (n + 1) := rfl
    have e2 : uv1 f (k + 1) (n + 1) = uv1 f (k + 1) n + f (k + 1 + (n : Int)) * 1073741824 ^ n := rfl
    rw [e1, e2, ih, p30_s, Int.mul_add, show k + 1 + (n : Int) = k + ((n + 1 : Nat) : Int) by omega, Int.mul_left_comm]
    omega
theorem nv1_split {f : Int → Int} {k : Nat} : ∀ n : Nat, nv1 f (k + n) = nv1 f k + 1073741824 ^ k * uv1 f k n
  | 0 => by
    show nv1 f k = nv1 f k + 1073741824 ^ k * 0
    omega
  | n + 1 => by
    show nv1 f (k + n) + f ((k + n : Nat) : Int) * 1073741824 ^ (k + n) = nv1 f k + 1073741824 ^ k * (uv1 f k n + f ((k : Int) + (n : Int)) * 1073741824 ^ n)
    rw [nv1_split n, Int.mul_add, Int.pow_add, show ((k + n : Nat) : Int) = (k : Int) + (n : Int) by omega, Int.mul_left_comm (1073741824 ^ k)]
    omega
/-- one limb of a row added -/
theorem row1 {P c d a l b t X V : Int} {k : Nat} (h : P + c * 1073741824 ^ k = X + l * V) (e : d + a * l + c = b + 1073741824 * t) : P + b * 1073741824 ^ k + t * 1073741824 ^ (k + 1) = X + d * 1073741824 ^ k + l * (V + a * 1073741824 ^ k) := by
  rw [p30_s, Int.mul_add]
  have e1 : l * (a * 1073741824 ^ k) = (a * l) * 1073741824 ^ k := by rw [Int.mul_left_comm, ← Int.mul_assoc]
  have e2 : t * (1073741824 * 1073741824 ^ k) = (1073741824 * t) * 1073741824 ^ k := by rw [Int.mul_left_comm, ← Int.mul_assoc]
  have e3 : (b + 1073741824 * t) * 1073741824 ^ k = (d + a * l + c) * 1073741824 ^ k := by rw [e]
  rw [Int.add_mul, Int.add_mul, Int.add_mul] at e3
  rw [e1, e2]
  omega
/-- the guess of a quotient's limb: what holds of it -/
theorem kd_ge {Q S R u fi : Int} {N : Int} (hN : 0 < N) (q : Q * S ≤ R) (s : fi * N ≤ S) (r : R < (u + 1) * N) (q0 : 0 ≤ Q) : Q * fi ≤ u := by
  have a := Int.mul_le_mul_of_nonneg_left s q0
  have b : Q * fi * N < (u + 1) * N := by
    rw [Int.mul_assoc]
    omega
  have := Int.lt_of_mul_lt_mul_right b (Int.le_of_lt hN)
  omega
theorem kd_qB {Q S R : Int} (q : Q * S ≤ R) (r : R < S * 1073741824) (s : 0 < S) : Q ≤ 1073741823 := by
  have a : Q * S < 1073741824 * S := by
    rw [Int.mul_comm 1073741824]
    omega
  have := Int.lt_of_mul_lt_mul_right a (Int.le_of_lt s)
  omega
/-- it is too great when the next limb says so -/
theorem kd_dec {Q g S R u le fi se th N2 lS lR : Int} (N0 : 0 < N2) (eS : S = fi * (1073741824 * N2) + se * N2 + lS) (S0 : 0 ≤ S) (lS0 : 0 ≤ lS) (eR : R = u * (1073741824 * N2) + th * N2 + lR) (lR1 : lR < N2) (gu : g * fi + le = u) (t : le * 1073741824 + th < g * se) (q : Q * S ≤ R) (g0 : 0 ≤ g) : Q ≤ g - 1 := by
  by_cases w : Q ≤ g - 1
  · exact w
  · exfalso
    have a : g * S ≤ R := Int.le_trans (Int.mul_le_mul_of_nonneg_right (by omega) S0) q
    have b : (le * 1073741824 + th + 1) * N2 ≤ g * se * N2 := Int.mul_le_mul_of_nonneg_right t (Int.le_of_lt N0)
    have c : 0 ≤ g * lS := Int.mul_nonneg g0 lS0
    have e : g * S = g * fi * (1073741824 * N2) + g * se * N2 + g * lS := by rw [eS]; grind
    have e2 : u * (1073741824 * N2) = g * fi * (1073741824 * N2) + le * (1073741824 * N2) := by rw [← gu, Int.add_mul]
    have e3 : (le * 1073741824 + th + 1) * N2 = le * (1073741824 * N2) + th * N2 + N2 := by grind
    rw [e3] at b
    rw [e, eR, e2] at a
    generalize g * fi * (1073741824 * N2) = x1 at *
    generalize le * (1073741824 * N2) = x2 at *
    generalize th * N2 = x3 at *
    generalize g * se * N2 = x4 at *
    generalize g * lS = x5 at *
    omega
/-- when what is left is great, it is not too great -/
theorem kd_a {g S R u le fi N lS lR : Int} (eS : S = fi * N + lS) (lS1 : lS ≤ N) (N0 : 0 ≤ N) (lR0 : 0 ≤ lR) (eR : R = u * N + lR) (gu : g * fi + le = u) (l : 1073741824 ≤ le) (g0 : 0 ≤ g) (gB : g ≤ 1073741824) : g * S ≤ R := by
  have a : g * lS ≤ g * N := Int.mul_le_mul_of_nonneg_left lS1 g0
  have a2 : g * N ≤ 1073741824 * N := Int.mul_le_mul_of_nonneg_right gB N0
  have b : 1073741824 * N ≤ le * N := Int.mul_le_mul_of_nonneg_right l N0
  have e : g * S = g * fi * N + g * lS := by rw [eS]; grind
  have e2 : u * N = g * fi * N + le * N := by rw [← gu, Int.add_mul]
  rw [e, eR, e2]
  generalize g * fi * N = x1 at *
  generalize le * N = x2 at *
  generalize g * lS = x3 at *
  generalize g * N = x4 at *
  omega
/-- when the next limb fits, it is too great by 1 at most -/
theorem kd_b {g S R u le fi se th N2 lS lR : Int} (N0 : 0 < N2) (eS : S = fi * (1073741824 * N2) + se * N2 + lS) (lS1 : lS ≤ N2) (f1 : 1 ≤ fi) (s0 : 0 ≤ se) (lS0 : 0 ≤ lS) (eR : R = u * (1073741824 * N2) + th * N2 + lR) (lR0 : 0 ≤ lR) (gu : g * fi + le = u) (t : g * se ≤ le * 1073741824 + th) (g0 : 0 ≤ g) (gB : g ≤ 1073741823) : g * S ≤ R + S := by
  have a : g * lS ≤ g * N2 := Int.mul_le_mul_of_nonneg_left lS1 g0
  have a2 : g * N2 ≤ 1073741823 * N2 := Int.mul_le_mul_of_nonneg_right gB (Int.le_of_lt N0)
  have b : g * se * N2 ≤ (le * 1073741824 + th) * N2 := Int.mul_le_mul_of_nonneg_right t (Int.le_of_lt N0)
  have c : 1 * (1073741824 * N2) ≤ fi * (1073741824 * N2) := Int.mul_le_mul_of_nonneg_right f1 (by omega)
  have c2 : 0 ≤ se * N2 := Int.mul_nonneg s0 (Int.le_of_lt N0)
  have e : g * S = g * fi * (1073741824 * N2) + g * se * N2 + g * lS := by rw [eS]; grind
  have e2 : u * (1073741824 * N2) = g * fi * (1073741824 * N2) + le * (1073741824 * N2) := by rw [← gu, Int.add_mul]
  have e3 : (le * 1073741824 + th) * N2 = le * (1073741824 * N2) + th * N2 := by grind
  rw [e3] at b
  rw [e, eR, e2]
  generalize hx : fi * (1073741824 * N2) = x0 at *
  generalize g * fi * (1073741824 * N2) = x1 at *
  generalize le * (1073741824 * N2) = x2 at *
  generalize th * N2 = x3 at *
  generalize g * se * N2 = x4 at *
  generalize g * lS = x5 at *
  generalize g * N2 = x6 at *
  generalize se * N2 = x7 at *
  omega
/-- what is left of a step: the rest, or the rest less the divisor -/
theorem kd_sub {Q g S R P top M : Int} (q1 : Q * S ≤ R) (q2 : R < Q * S + S) (g1 : Q ≤ g) (g2 : g ≤ Q + 1) (S1 : 0 < S) (SM : S ≤ M) (P0 : 0 ≤ P) (PM : P < M) (e : P + top * M = R - g * S) : (g = Q ∧ top = 0 ∧ P = R - Q * S) ∨ (g = Q + 1 ∧ top = -1 ∧ P + S - M = R - Q * S) := by
  have t : g = Q ∨ g = Q + 1 := by omega
  rcases t with rfl | rfl
  · left
    have h1 : -1 < top := by
      by_cases w : -1 < top
      · exact w
      · have := Int.mul_le_mul_of_nonneg_right (show top ≤ -1 by omega) (show 0 ≤ M by omega)
        omega
    have h2 : top < 1 := by
      by_cases w : top < 1
      · exact w
      · have := Int.mul_le_mul_of_nonneg_right (show 1 ≤ top by omega) (show 0 ≤ M by omega)
        omega
    have h3 : top = 0 := by omega
    refine ⟨rfl, h3, ?_⟩
    rw [h3, Int.zero_mul] at e
    omega
  · right
    have e0 : (Q + 1) * S = Q * S + S := by rw [Int.add_mul, Int.one_mul]
    rw [e0] at e
    have h1 : -2 < top := by
      by_cases w : -2 < top
      · exact w
      · have := Int.mul_le_mul_of_nonneg_right (show top ≤ -2 by omega) (show 0 ≤ M by omega)
        omega
    have h2 : top < 0 := by
      by_cases w : top < 0
      · exact w
      · have := Int.mul_nonneg (show 0 ≤ top by omega) (show 0 ≤ M by omega)
        omega
    have h3 : top = -1 := by omega
    refine ⟨rfl, h3, ?_⟩
    rw [h3] at e
    omega
/-- the value of a window's limbs in two and three parts -/
theorem nv1_2 {f : Int → Int} (n : Nat) : nv1 f (n + 1) = nv1 f n + f (n : Int) * 1073741824 ^ n := rfl
theorem nv1_3 {f : Int → Int} (n : Nat) : nv1 f (n + 2) = nv1 f n + f (n : Int) * 1073741824 ^ n + f ((n + 1 : Nat) : Int) * (1073741824 * 1073741824 ^ n) := by
  show nv1 f n + f (n : Int) * 1073741824 ^ n + f ((n + 1 : Nat) : Int) * 1073741824 ^ (n + 1) = _
  rw [p30_s]
