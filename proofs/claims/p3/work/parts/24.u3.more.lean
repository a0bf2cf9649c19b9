/-! an exact quotient, its sign told anew -/
theorem nv_exact {h h' : MH} {a d m v : Int} (va : Nv 140 2515 2516 h a d) (hm : 1 ≤ m) (dv : m ∣ d) (p1 : Num (ga h' 2515) 140 a) (p2 : m * vl (ga h' 2515) 140 a + v = vl (ga h 2515) 140 a) (p3 : 0 ≤ v ∧ v < m) (a0 : 0 ≤ a) : ∃ y : Int, y.natAbs ≤ d.natAbs ∧ ∀ (h2 : MH) (w : Int), h2 = sa h' 2516 a w → w = d.sign → Nv 140 2515 2516 h2 a y := by
  obtain ⟨k, hk⟩ := dv
  have w0 := vl_nonneg p1
  rw [va.2.1] at p2
  obtain ⟨w, hw⟩ : ∃ w : Int, vl (ga h' 2515) 140 a = w := ⟨_, rfl⟩
  rw [hw] at w0 p2
  have e1 : (d.natAbs : Int) = m * (k.natAbs : Int) := by
    rw [hk, Int.natAbs_mul, Int.natCast_mul]
    have : (m.natAbs : Int) = m := by omega
    rw [this]
  rw [e1] at p2
  have e2 : w = (k.natAbs : Int) := by
    have e3 : m * ((k.natAbs : Int) - w) = v := by
      rw [Int.mul_sub]
      omega
    rcases Int.lt_trichotomy ((k.natAbs : Int) - w) 0 with q | q | q
    · exfalso
      have : m * ((k.natAbs : Int) - w) ≤ m * (-1) := Int.mul_le_mul_of_nonneg_left (by omega) (by omega)
      omega
    · omega
    · exfalso
      have : m * 1 ≤ m * ((k.natAbs : Int) - w) := Int.mul_le_mul_of_nonneg_left (by omega) (by omega)
      omega
  have kd : (k.natAbs : Int) ≤ (d.natAbs : Int) := by
    rw [e1]
    have : 1 * (k.natAbs : Int) ≤ m * (k.natAbs : Int) := Int.mul_le_mul_of_nonneg_right hm (by omega)
    omega
  refine ⟨k, by omega, fun h2 x eh ex => ?_⟩
  have z : ga h2 2515 = ga h' 2515 := by
    rw [eh]
    exact ga_fun (by decide)
  refine ⟨by rw [z]; exact p1, by rw [z, hw, e2], ?_⟩
  have s1 : ga h2 2516 a = x := (ga_wr eh a0 a0).trans (if_pos rfl)
  rw [s1, ex, hk, Int.sign_mul, Int.sign_eq_one_of_pos (show 0 < m by omega), Int.one_mul]
theorem CV.only {h h' : MH} {cn : Int} (v : CV h cn) (e : ga h' 2515 = ga h 2515) (f : ga h' 2516 = ga h 2516) (k : ga h' 2517 = ga h 2517) : CV h' cn := by
  obtain ⟨U, u, n⟩ := v
  refine ⟨U, fun j a b => by rw [k]; exact u j a b, fun i a b => ?_⟩
  have q := n i a b
  unfold Nd Nv at q ⊢
  rw [e, f]
  exact q
/-! where an axle stands at a corner -/
def pq (h : MH) (t back i c : Int) : Int := if back = 0 then ga h 2517 c + ga h 2521 (5 * t + i) else ga h 2517 c - ga h 2521 (5 * t + i)
def cntN (f : Nat → Int) (s : Int) : Nat → Nat
  | 0 => 0
  | n + 1 => cntN f s n + (if f n < s then 1 else 0)
theorem cntN_le (f : Nat → Int) (s : Int) : ∀ n : Nat, cntN f s n ≤ n
  | 0 => Nat.le_refl 0
  | n + 1 => by
    have := cntN_le f s n
    show cntN f s n + (if f n < s then 1 else 0) ≤ n + 1
    split <;> omega
theorem cntN_mono (f : Nat → Int) (s : Int) : ∀ n : Nat, cntN f s n ≤ cntN f (s + 1) n
  | 0 => Nat.le_refl 0
  | n + 1 => by
    have := cntN_mono f s n
    show cntN f s n + (if f n < s then 1 else 0) ≤ cntN f (s + 1) n + (if f n < s + 1 then 1 else 0)
    by_cases q : f n < s
    · rw [if_pos q, if_pos (by omega)]
      omega
    · rw [if_neg q]
      split <;> omega
theorem cntN_hit (f : Nat → Int) (s : Int) {j : Nat} : ∀ n : Nat, j < n → f j = s → cntN f s n + 1 ≤ cntN f (s + 1) n
  | 0, h, _ => absurd h (by omega)
  | n + 1, h, e => by
    show cntN f s n + (if f n < s then 1 else 0) + 1 ≤ cntN f (s + 1) n + (if f n < s + 1 then 1 else 0)
    by_cases q : j = n
    · subst q
      have := cntN_mono f s j
      rw [if_neg (by omega), if_pos (by omega)]
      omega
    · have a := cntN_hit f s n (by omega) e
      by_cases w : f n < s
      · rw [if_pos w, if_pos (by omega)]
        omega
      · rw [if_neg w]
        split <;> omega
def cP (h : MH) (t back s : Int) : Int := (cntN (fun j => pq h t back ((j / 14 : Nat) : Int) ((j % 14 : Nat) : Int)) s 70 : Nat)
theorem cP_b (h : MH) (t back s : Int) : 0 ≤ cP h t back s ∧ cP h t back s ≤ 70 := by
  have := cntN_le (fun j => pq h t back ((j / 14 : Nat) : Int) ((j % 14 : Nat) : Int)) s 70
  unfold cP
  omega
theorem cP_m (h : MH) (t back s : Int) : cP h t back s ≤ cP h t back (s + 1) := by
  have := cntN_mono (fun j => pq h t back ((j / 14 : Nat) : Int) ((j % 14 : Nat) : Int)) s 70
  unfold cP
  omega
theorem cP_hit {h : MH} {t back s i c : Int} (hi : 0 ≤ i ∧ i < 5) (hc : 0 ≤ c ∧ c < 14) (e : pq h t back i c = s) : cP h t back s + 1 ≤ cP h t back (s + 1) := by
  have d1 : (14 * i.toNat + c.toNat) / 14 = i.toNat := by omega
  have d2 : (14 * i.toNat + c.toNat) % 14 = c.toNat := by omega
  have := cntN_hit (fun j => pq h t back ((j / 14 : Nat) : Int) ((j % 14 : Nat) : Int)) s (j := 14 * i.toNat + c.toNat) 70 (by omega) (by
    show pq h t back (((14 * i.toNat + c.toNat) / 14 : Nat) : Int) (((14 * i.toNat + c.toNat) % 14 : Nat) : Int) = s
    rw [d1, d2, show ((i.toNat : Nat) : Int) = i by omega, show ((c.toNat : Nat) : Int) = c by omega]
    exact e)
  unfold cP
  omega
