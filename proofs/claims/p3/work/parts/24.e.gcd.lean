/-! by hand: greatest common divisors, halved and subtracted; quotients bit by bit -/
def gi (x y : Int) : Int := (Int.gcd x y : Int)
theorem gi_comm (x y : Int) : gi x y = gi y x := by
  unfold gi
  rw [Int.gcd_comm]
theorem gi_pos {x : Int} (hx : 0 < x) (y : Int) : 0 < gi x y := by
  unfold gi
  have := Int.gcd_pos_of_ne_zero_left y (by omega : x ≠ 0)
  omega
theorem gi_dl (x y : Int) : gi x y ∣ x := Int.gcd_dvd_left ..
theorem gi_dr (x y : Int) : gi x y ∣ y := Int.gcd_dvd_right ..
theorem gi_le {x : Int} (hx : 0 < x) (y : Int) : gi x y ≤ x := Int.le_of_dvd hx (gi_dl x y)
theorem gi_zero {x : Int} (hx : 0 ≤ x) : gi x 0 = x := by
  unfold gi
  rw [Int.gcd_zero_right]
  omega
theorem gi_two (x y : Int) : gi (2 * x) (2 * y) = 2 * gi x y := by
  unfold gi
  rw [Int.gcd_mul_left]
  show ((2 * Int.gcd x y : Nat) : Int) = _
  omega
theorem gi_unique {x y d : Int} (hd : 0 ≤ d) (h1 : d ∣ x) (h2 : d ∣ y) (h3 : ∀ e : Int, e ∣ x → e ∣ y → e ∣ d) : gi x y = d := by
  have a : gi x y ∣ d := h3 _ (gi_dl x y) (gi_dr x y)
  have b : d ∣ gi x y := Int.dvd_coe_gcd h1 h2
  have p : 0 ≤ gi x y := by
    unfold gi
    omega
  exact Int.dvd_antisymm p hd a b
theorem gi_sub (x y : Int) : gi x (y - x) = gi x y := by
  have p : 0 ≤ gi x y := by
    unfold gi
    omega
  refine gi_unique p (gi_dl x y) ?_ ?_
  · exact Int.dvd_sub (gi_dr x y) (gi_dl x y)
  · intro e h1 h2
    refine Int.dvd_coe_gcd h1 ?_
    have := Int.dvd_add h2 h1
    rw [Int.sub_add_cancel] at this
    exact this
/-- an odd one has no part in a two -/
theorem gi_half {x y : Int} (hx : x % 2 = 0) (hy : y % 2 = 1) : gi (x / 2) y = gi x y := by
  have ex : x = 2 * (x / 2) := by omega
  have p : 0 ≤ gi x y := by
    unfold gi
    omega
  refine gi_unique p ?_ (gi_dr x y) ?_
  · obtain ⟨k, hk⟩ := gi_dl x y
    obtain ⟨l, hl⟩ := gi_dr x y
    generalize gi x y = d at *
    have hd : d % 2 = 1 := by
      have h1 : (d * l) % 2 = 1 := by rw [← hl]; exact hy
      rw [Int.mul_emod] at h1
      have : d % 2 = 0 ∨ d % 2 = 1 := by omega
      rcases this with e | e
      · rw [e, Int.zero_mul] at h1
        exact absurd h1 (by decide)
      · exact e
    have hk2 : k % 2 = 0 := by
      have h1 : (d * k) % 2 = 0 := by rw [← hk]; exact hx
      rw [Int.mul_emod, hd, Int.one_mul] at h1
      omega
    refine ⟨k / 2, ?_⟩
    have : 2 * (x / 2) = 2 * (d * (k / 2)) := by
      rw [← ex, hk, Int.mul_left_comm]
      congr 1
      omega
    omega
  · intro e h1 h2
    refine Int.dvd_coe_gcd ?_ h2
    rw [ex]
    exact Int.dvd_mul_of_dvd_right h1
theorem PD_s (k : Int) (hk : 0 ≤ k) : PD (k + 1).toNat = 2 * PD k.toNat := by
  have : (k + 1).toNat = k.toNat + 1 := by omega
  rw [this]
  rfl
/-- fewer twos than bits -/
theorem PD_bound {x v k : Int} {m : Nat} (hx : 0 < x) (hk : 0 ≤ k) (e : x * PD k.toNat = v) (hv : v < PW m) : k < 24 * (m : Int) := by
  have p := PD_pos k.toNat
  have h1 : 1 * PD k.toNat ≤ x * PD k.toNat := Int.mul_le_mul_of_nonneg_right (by omega) (by omega)
  rw [Int.one_mul, e] at h1
  have h2 : PD k.toNat < PD (24 * m) := by
    rw [← PW_PD]
    omega
  have := PD_lt_of h2
  omega
/-- shifting until it fits: t PD (n1 - n2) < 2 v -/
theorem shift_fit {t v n1 n2 : Int} (ht : 1 ≤ t) (htv : t ≤ v) (h1 : v < PD n1.toNat) (h1' : 1 ≤ n1 ∧ PD (n1 - 1).toNat ≤ v) (h2 : t < PD n2.toNat) (h2' : 1 ≤ n2 ∧ PD (n2 - 1).toNat ≤ t) : 0 ≤ n1 - n2 ∧ v < t * PD (n1 - n2 + 1).toNat ∧ t * PD (n1 - n2).toNat < 2 * v := by
  have q : (n2 - 1).toNat < n1.toNat := PD_lt_of (by omega)
  have q2 : 0 ≤ n1 - n2 := by omega
  refine ⟨q2, ?_, ?_⟩
  · have e : n1.toNat = (n2 - 1).toNat + (n1 - n2 + 1).toNat := by omega
    have h3 : PD (n2 - 1).toNat * PD (n1 - n2 + 1).toNat ≤ t * PD (n1 - n2 + 1).toNat := Int.mul_le_mul_of_nonneg_right h2'.2 (Int.le_of_lt (PD_pos _))
    rw [← PD_add, ← e] at h3
    omega
  · have e : n1.toNat = n2.toNat + (n1 - n2).toNat := by omega
    have p := PD_pos (n1 - n2).toNat
    have h3 : t * PD (n1 - n2).toNat < PD n2.toNat * PD (n1 - n2).toNat := Int.mul_lt_mul_of_pos_right h2 p
    rw [← PD_add, ← e] at h3
    have h4 : PD n1.toNat = 2 * PD (n1 - 1).toNat := by
      have := PD_s (n1 - 1) (by omega)
      rw [Int.sub_add_cancel] at this
      exact this
    omega
/-- one bit of a quotient -/
theorem quot_bit {q r v t F k : Int} (ht : 0 < t) (hk : 0 ≤ k) (hF : F = t * PD k.toNat) (e : q * (t * PD (k + 1).toNat) + r = v) (hr : r < t * PD (k + 1).toNat) : (F ≤ r → (2 * q + 1) * (t * PD k.toNat) + (r - F) = v ∧ r - F < t * PD k.toNat) ∧ (r < F → 2 * q * (t * PD k.toNat) + r = v ∧ r < t * PD k.toNat) := by
  have e1 : t * PD (k + 1).toNat = 2 * (t * PD k.toNat) := by
    rw [PD_s k hk, Int.mul_left_comm]
  rw [e1] at e hr
  rw [← hF] at e hr ⊢
  have e2 : q * (2 * F) = 2 * q * F := by rw [← Int.mul_assoc, Int.mul_comm q]
  rw [e2] at e
  refine ⟨fun h => ⟨?_, by omega⟩, fun h => ⟨e, h⟩⟩
  rw [Int.add_mul, Int.one_mul]
  omega
theorem quot_le {q r v T : Int} (hq : 0 ≤ q) (hr : 0 ≤ r) (hT : 1 ≤ T) (e : q * T + r = v) : q ≤ v := by
  have : q * 1 ≤ q * T := Int.mul_le_mul_of_nonneg_left hT hq
  omega
theorem quot_end {q r v t : Int} (ht : 0 < t) (hr : 0 ≤ r) (h : q * (t * PD 0) + r = v) (hrt : r < t * PD 0) (hd : t ∣ v) : q * t = v := by
  have e : PD 0 = 1 := rfl
  rw [e, Int.mul_one] at h hrt
  have hdr : t ∣ r := by
    have : r = v - q * t := by omega
    rw [this]
    exact Int.dvd_sub hd (Int.dvd_mul_left ..)
  have : r = 0 := by
    by_cases z : r = 0
    · exact z
    · have := Int.le_of_dvd (by omega) hdr
      omega
  omega
theorem Ch.sgn {W : Int} {z s : Nat} {T : List Int} {h h' : MH} (c : Ch W z s T h h') (zs : z ≠ s) {n v : Int} (hn : 0 ≤ n) (m : n ∈ T) : Ch W z s T h (sa h' s n v) :=
  ⟨c.1.set (List.mem_cons_of_mem _ List.mem_cons_self), fun i p q => by rw [ga_ne _ _ _ _ zs]; exact c.2.1 i p q, fun j p q => by
    have e : j ≠ n := fun e => q (by rw [e]; exact m)
    rw [ga_sa _ _ _ hn p, if_neg e]
    exact c.2.2 j p q⟩
theorem ga_fun {h : MH} {c d : Nat} {i v : Int} (e : d ≠ c) : ga (sa h c i v) d = ga h d := funext fun j => ga_ne h c i v e j
theorem PW_s (m : Nat) : PW (m + 1) = PW m * 16777216 := rfl
theorem gi_PD (x y : Int) : ∀ n : Nat, gi (x * PD n) (y * PD n) = gi x y * PD n
  | 0 => by
    show gi (x * 1) (y * 1) = gi x y * 1
    rw [Int.mul_one, Int.mul_one, Int.mul_one]
  | n + 1 => by
    show gi (x * (2 * PD n)) (y * (2 * PD n)) = gi x y * (2 * PD n)
    rw [Int.mul_left_comm x, Int.mul_left_comm y, gi_two, gi_PD x y n, Int.mul_left_comm]
theorem lt_PD {x v : Int} {n m : Nat} (hx : 0 < x) (e : x * PD n = v) (h : v < PW m) : x < PW m := by
  have p := PD_pos n
  have := Int.mul_le_mul_of_nonneg_left (show 1 ≤ PD n by omega) (Int.le_of_lt hx)
  omega
