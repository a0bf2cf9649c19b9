/-! by hand: rests, and divisors by rests -/
theorem gi_mod {x y : Int} : gi y (x % y) = gi x y := by
  have p : 0 ≤ gi x y := by
    unfold gi
    omega
  have e : x % y = x - y * (x / y) := Int.emod_def x y
  refine gi_unique p (gi_dr x y) ?_ ?_
  · rw [e]
    exact Int.dvd_sub (gi_dl x y) (Int.dvd_mul_of_dvd_left (gi_dr x y))
  · intro d h1 h2
    refine Int.dvd_coe_gcd ?_ h1
    have : x = x % y + y * (x / y) := (Int.emod_add_mul_ediv x y).symm
    rw [this]
    exact Int.dvd_add h2 (Int.dvd_mul_of_dvd_left h1)
/-- one limb of a rest -/
theorem rest_step {f : Int → Int} {m r x q r' k s : Int} (hk : 1 ≤ k) (hks : k ≤ s) (ex : f k = x) (hv : m * q + r' = r * 16777216 + x) (i7 : m ∣ bl f s.toNat - bl f k.toNat - r * PW k.toNat) : m ∣ bl f s.toNat - bl f (k - 1).toNat - r' * PW (k - 1).toNat := by
  have en : k.toNat = (k - 1).toNat + 1 := by omega
  have ec : (((k - 1).toNat : Nat) : Int) + 1 = k := by omega
  have w2 := bl_s f (k - 1).toNat
  rw [← en, ec, ex] at w2
  have hP : PW k.toNat = PW (k - 1).toNat * 16777216 := by rw [en]; rfl
  rw [hP] at i7
  generalize PW (k - 1).toNat = T at *
  have h2 : (m * q + r') * T = (r * 16777216 + x) * T := by rw [hv]
  rw [Int.add_mul, Int.add_mul, Int.mul_assoc m, Int.mul_assoc r, Int.mul_comm 16777216] at h2
  have e : bl f s.toNat - bl f (k - 1).toNat - r' * T = (bl f s.toNat - bl f k.toNat - r * (T * 16777216)) + m * (q * T) := by omega
  rw [e]
  exact Int.dvd_add i7 (Int.dvd_mul_right ..)
theorem rest_end {v m r : Int} (hm : 0 < m) (h0 : 0 ≤ r) (h1 : r < m) (hd : m ∣ v - r) : r = v % m := by
  obtain ⟨k, hk⟩ := hd
  have a := (Int.ediv_emod_unique hm (a := v) (r := r) (q := k)).mpr ⟨by omega, h0, h1⟩
  exact a.2.symm
theorem emod_of {x y : Int} (hx : 0 ≤ x) (hy : 0 < y) : x.tmod y = x % y ∧ 0 ≤ x % y ∧ x % y < y := ⟨Int.tmod_eq_emod_of_nonneg hx, Int.emod_nonneg _ (by omega), Int.emod_lt_of_pos _ hy⟩
theorem sgn_ord {a b x y : Int} (ha : a = x.sign) (hb : b = y.sign) (hx : x.sign ≠ y.sign) : (a - b < 0 ↔ x < y) ∧ (0 < a - b ↔ y < x) := by
  have := sgn3 x
  have := sgn3 y
  omega
theorem sgn_cmp {c x y : Int} (e : x.sign = y.sign) (h : ((x.natAbs : Int) < y.natAbs → c < 0) ∧ ((x.natAbs : Int) = y.natAbs → c = 0) ∧ ((y.natAbs : Int) < x.natAbs → 0 < c)) : (x.sign * c < 0 ↔ x < y) ∧ (0 < x.sign * c ↔ y < x) := by
  have sx := sgn3 x
  have sy := sgn3 y
  rcases sx with w | w | w
  · rw [w.2]
    omega
  · rw [w.2]
    omega
  · rw [w.2]
    omega
/-- what lies on the stack is in its range -/
theorem hd_topI {K : mK} {Q : MO → MH → Prop} {mc ms pc : Nat} {L : List (Nat × MV)} {S : List MV} {h : MH} {x : Int} (k : -2147483648 ≤ x ∧ x ≤ 2147483647 → MW K Q mc ms pc L ((0, x) :: S) h) : MW K Q mc ms pc L ((0, x) :: S) h := by
  intro D y s0 p l e R s m args below meth c H locs cells slots MC MS Q' ls C F P SS hl oL oS hc hs
  exact k (mokS_cons.mp oS).1 D y s0 p l e R s m args below meth c H locs cells slots MC MS Q' ls C F P SS hl oL oS hc hs
theorem hd_topL {K : mK} {Q : MO → MH → Prop} {mc ms pc : Nat} {L : List (Nat × MV)} {S : List MV} {h : MH} {x : Int} (k : -9223372036854775808 ≤ x ∧ x ≤ 9223372036854775807 → MW K Q mc ms pc L ((1, x) :: S) h) : MW K Q mc ms pc L ((1, x) :: S) h := by
  intro D y s0 p l e R s m args below meth c H locs cells slots MC MS Q' ls C F P SS hl oL oS hc hs
  exact k (mokS_cons.mp oS).1 D y s0 p l e R s m args below meth c H locs cells slots MC MS Q' ls C F P SS hl oL oS hc hs
