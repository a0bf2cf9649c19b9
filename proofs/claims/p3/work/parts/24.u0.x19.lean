/-! X19: rows of corners, trains, their numbers -/
theorem lcm_step {L b K : Int} (hL : 0 < L) (hb : 0 < b) (k1 : L ∣ K) (k2 : b ∣ K) : L * (b / gi b (L % b)) ∣ K := by
  have e0 : gi b (L % b) = gi L b := gi_mod
  rw [e0]
  have g0 := gi_pos hL b
  have d := gi_dr L b
  have e1 : gi L b * (b / gi L b) = b := Int.mul_ediv_cancel' d
  have e2 : gi L b * (Int.lcm L b : Int) = L * b := by
    have q := Int.gcd_mul_lcm L b
    have q2 : ((Int.gcd L b * Int.lcm L b : Nat) : Int) = ((L.natAbs * b.natAbs : Nat) : Int) := by rw [q]
    rw [Int.natCast_mul, Int.natCast_mul] at q2
    have n1 : (L.natAbs : Int) = L := by omega
    have n2 : (b.natAbs : Int) = b := by omega
    rw [n1, n2] at q2
    exact q2
  have e3 : gi L b * (L * (b / gi L b)) = gi L b * (Int.lcm L b : Int) := by
    rw [e2, Int.mul_left_comm, e1]
  have e4 : L * (b / gi L b) = (Int.lcm L b : Int) := Int.eq_of_mul_eq_mul_left (by omega) e3
  rw [e4]
  exact Int.coe_lcm_dvd k1 k2
def KA : Int := 7128865274665093053166384155714272920668358861885893040452001991154324087581111499476444151913871586911717817019575256512980264067621009251465871004305131072686268143200196609974862745937188343705015434452523739745298963145674982128236956232823794011068809262317708861979540791247754558049326475737829923352751796735248042463638051137034331214781746850878453485678021888075373249921995672056932029099390891687487672697950931603520000
def KB : Int := 59667938474323557926610970384107539796305717355014061670120366929881205532187367293878763402540062687069192396177530529433679744512785143511161505144900493481243179036448000
theorem KA_all {b : Int} (h : 1 ≤ b ∧ b ≤ 1000) : b ∣ KA := by
  have a : allN 1000 (fun n => decide (KA % ((n : Int) + 1) = 0)) = true := by decide +kernel
  have c := of_decide_eq_true (allN_at a (b - 1).toNat (by omega))
  rw [show (((b - 1).toNat : Nat) : Int) + 1 = b by omega] at c
  exact Int.dvd_of_emod_eq_zero c
theorem KB_all {b : Int} (h : 1 ≤ b ∧ b ≤ 400) : b ∣ KB := by
  have a : allN 400 (fun n => decide (KB % ((n : Int) + 1) = 0)) = true := by decide +kernel
  have c := of_decide_eq_true (allN_at a (b - 1).toNat (by omega))
  rw [show (((b - 1).toNat : Nat) : Int) + 1 = b by omega] at c
  exact Int.dvd_of_emod_eq_zero c
/-- no lower part is divided by 10^18 -/
theorem KK_no {d : Int} (h : d ∣ KA * KB) : d % 1000000000000000000 ≠ 0 := fun q => by
  have a : (1000000000000000000 : Int) ∣ KA * KB := Int.dvd_trans (Int.dvd_of_emod_eq_zero q) h
  have b := Int.emod_eq_zero_of_dvd a
  exact absurd b (by decide +kernel)
/-- a number of so many limbs stands there -/
def Nx (h : MH) (n : Int) (m : Nat) : Prop := ∃ x : Int, Nv 140 2515 2516 h n x ∧ (x.natAbs : Int) < PW m
theorem Nx.keep {h h' : MH} {n : Int} {m : Nat} {T : List Int} (v : Nx h n m) (c : Ch 140 2515 2516 T h h') (hn : 0 ≤ n) (k : n ∉ T) : Nx h' n m := by
  obtain ⟨x, a, b⟩ := v
  exact ⟨x, a.keep (by decide) c hn k, b⟩
theorem nv_divide {h h' : MH} {a x m v : Int} (va : Nv 140 2515 2516 h a x) (hm : 1 ≤ m) (p1 : Num (ga h' 2515) 140 a) (p2 : m * vl (ga h' 2515) 140 a + v = vl (ga h 2515) 140 a) (p3 : 0 ≤ v ∧ v < m) (p4 : ga h' 2516 a = (if sz (ga h' 2515) 140 a = 0 then 0 else ga h 2516 a)) : ∃ y : Int, Nv 140 2515 2516 h' a y ∧ y.natAbs ≤ x.natAbs ∧ (0 ≤ x → 0 ≤ y) := by
  have w0 := vl_nonneg p1
  have z := vl_zero p1
  rw [va.2.1] at p2
  rw [va.2.2] at p4
  have m1 : 1 * vl (ga h' 2515) 140 a ≤ m * vl (ga h' 2515) 140 a := Int.mul_le_mul_of_nonneg_right hm w0
  obtain ⟨w, hw⟩ : ∃ w : Int, vl (ga h' 2515) 140 a = w := ⟨_, rfl⟩
  rw [hw] at w0 z p2 m1
  rcases sgn3 x with q | q | q
  · refine ⟨-w, ⟨p1, by omega, ?_⟩, by omega, fun h => by omega⟩
    have s := sgn3 (-w)
    rw [p4, q.2]
    split <;> omega
  · refine ⟨w, ⟨p1, by omega, ?_⟩, by omega, fun h => by omega⟩
    have s := sgn3 w
    rw [p4, q.2]
    split <;> omega
  · refine ⟨w, ⟨p1, by omega, ?_⟩, by omega, fun h => by omega⟩
    have s := sgn3 w
    rw [p4, q.2]
    split <;> omega
/-- what stands still while numbers are reckoned: corners, trains, lanes, text -/
def Cn9 (h : MH) (cn : Int) : Prop := ga h 2514 2 = cn ∧ (0 ≤ cn ∧ cn ≤ 14) ∧ (∀ i : Int, 0 ≤ i → i < cn → (0 ≤ ga h 2517 i ∧ ga h 2517 i ≤ 400) ∧ (-1000000 ≤ ga h 2518 i ∧ ga h 2518 i ≤ 1000000) ∧ (1 ≤ ga h 2519 i ∧ ga h 2519 i ≤ 1000)) ∧ ∀ i j : Int, 0 ≤ i → i < j → j < cn → ga h 2517 i < ga h 2517 j
def Tr9 (h : MH) : Prop := (0 ≤ ga h 2514 7 ∧ ga h 2514 7 ≤ 6) ∧ ∀ t : Int, 0 ≤ t → t < 6 → (0 ≤ ga h 2520 t ∧ ga h 2520 t ≤ 5) ∧ (0 ≤ ga h 2523 t ∧ ga h 2523 t ≤ 300) ∧ (0 ≤ ga h 2524 t ∧ ga h 2524 t ≤ 300) ∧ ∀ i : Int, 0 ≤ i → i < ga h 2520 t → (0 ≤ ga h 2521 (5 * t + i) ∧ ga h 2521 (5 * t + i) ≤ 60 * i) ∧ (0 ≤ ga h 2522 (5 * t + i) ∧ ga h 2522 (5 * t + i) ≤ 1000000)
def Ln9 (h : MH) : Prop := (0 ≤ ga h 2514 21 ∧ ga h 2514 21 ≤ 4) ∧ ∀ i : Int, 0 ≤ i → i < ga h 2514 21 → (0 ≤ ga h 2525 i ∧ ga h 2525 i ≤ 1000) ∧ (1 ≤ ga h 2526 i ∧ ga h 2526 i ≤ 1000)
def Tx9 (h : MH) : Prop := (0 ≤ ga h 2514 24 ∧ ga h 2514 24 ≤ 100) ∧ (0 ≤ ga h 2514 26 ∧ ga h 2514 26 ≤ 8) ∧ (∀ k : Int, 0 ≤ k → k < 8 → (0 ≤ ga h 2528 k ∧ ga h 2528 k ≤ 6) ∧ (0 ≤ ga h 2530 k ∧ ga h 2530 k ≤ 6)) ∧ ∀ t : Int, 0 ≤ t → t < 144 → (-9999 ≤ ga h 2529 t ∧ ga h 2529 t ≤ 9999) ∧ (-9999 ≤ ga h 2531 t ∧ ga h 2531 t ≤ 9999)
def Wk9 (h : MH) : Prop := (ga h 2514 13 ≠ 0 → 0 ≤ ga h 2514 14 ∧ ga h 2514 14 < ga h 2514 7) ∧ (-400 ≤ ga h 2514 15 ∧ ga h 2514 15 ≤ 800) ∧ (-1 ≤ ga h 2514 17 ∧ ga h 2514 17 ≤ 5)
def S19 (h : MH) (cn : Int) : Prop := Cn9 h cn ∧ Tr9 h ∧ Ln9 h ∧ Tx9 h ∧ Wk9 h
theorem S19.only {h h' : MH} {cn : Int} (j : S19 h cn) (o : Only [2515, 2516] h h') : S19 h' cn := by
  have e : ∀ d : Nat, d ∉ [2515, 2516] → ga h' d = ga h d := fun d n => funext fun i => o.ga n i
  unfold S19 Cn9 Tr9 Ln9 Tx9 Wk9
  rw [e 2514 (by decide), e 2517 (by decide), e 2518 (by decide), e 2519 (by decide), e 2520 (by decide), e 2521 (by decide), e 2522 (by decide), e 2523 (by decide), e 2524 (by decide), e 2525 (by decide), e 2526 (by decide), e 2528 (by decide), e 2529 (by decide), e 2530 (by decide), e 2531 (by decide)]
  exact j
/-- such a number, and U goes into it -/
def Nd (h : MH) (n : Int) (m : Nat) (U : Int) : Prop := ∃ x : Int, Nv 140 2515 2516 h n x ∧ (x.natAbs : Int) < PW m ∧ U ∣ x
theorem Nd.keep {h h' : MH} {n U : Int} {m : Nat} {T : List Int} (v : Nd h n m U) (c : Ch 140 2515 2516 T h h') (hn : 0 ≤ n) (k : n ∉ T) : Nd h' n m U := by
  obtain ⟨x, a, b⟩ := v
  exact ⟨x, a.keep (by decide) c hn k, b⟩
/-- all lengths between corners go into U -/
def Ud (h : MH) (n U : Int) : Prop := ∀ j : Int, 1 ≤ j → j < n → (ga h 2517 j - ga h 2517 (j - 1)) ∣ U
theorem Ud.only {h h' : MH} {n U : Int} {cs : List Nat} (u : Ud h n U) (o : Only cs h h') (k : 2517 ∉ cs) : Ud h' n U := fun j a b => by
  rw [o.ga k, o.ga k]
  exact u j a b
/-- the corners' values -/
def CV (h : MH) (cn : Int) : Prop := ∃ U : Int, Ud h cn U ∧ ∀ c : Int, 0 ≤ c → c < cn → Nd h c 12 U
theorem CV.keep {h h' : MH} {cn : Int} {T : List Int} (v : CV h cn) (c : Ch 140 2515 2516 T h h') (k : ∀ i : Int, 0 ≤ i → i < cn → i ∉ T) : CV h' cn := by
  obtain ⟨U, u, n⟩ := v
  exact ⟨U, u.only c.1 (by decide), fun i a b => (n i a b).keep c a (k i a b)⟩
def LO (h : MH) : Prop := ∃ L : Int, Nv 140 2515 2516 h 14 L ∧ 0 < L ∧ L < PW 11 ∧ L ∣ KA * KB
theorem LO.keep {h h' : MH} {T : List Int} (v : LO h) (c : Ch 140 2515 2516 T h h') (k : 14 ∉ T) : LO h' := by
  obtain ⟨x, a, b⟩ := v
  exact ⟨x, a.keep (by decide) c (by decide) k, b⟩
/-- what stands in numbers: the corners' values, the worst effect -/
def Q9 (h : MH) (cn : Int) : Prop := (ga h 2514 6 ≠ 0 → LO h ∧ CV h cn) ∧ (ga h 2514 13 ≠ 0 → ga h 2514 6 ≠ 0 ∧ Nx h 16 28)
theorem Q9.keep {h h' : MH} {cn : Int} {T : List Int} (v : Q9 h cn) (c : Ch 140 2515 2516 T h h') (cb : cn ≤ 14) (k : ∀ n ∈ T, 15 ≤ n ∧ n ≠ 16) : Q9 h' cn := by
  have e6 := c.1.ga (d := 2514) (by decide) 6
  have e13 := c.1.ga (d := 2514) (by decide) 13
  unfold Q9
  rw [e6, e13]
  have nn : ∀ m : Int, m < 15 ∨ m = 16 → m ∉ T := fun m hm w => by
    have := k m w
    omega
  exact ⟨fun q => ⟨(v.1 q).1.keep c (nn 14 (by omega)), (v.1 q).2.keep c fun i a b => nn i (by omega)⟩, fun q => ⟨(v.2 q).1, (v.2 q).2.keep c (by decide) (nn 16 (by omega))⟩⟩
theorem PW_lt {x : Int} {m n : Nat} (h : (x.natAbs : Int) < PW m) (k : m ≤ n) : (x.natAbs : Int) < PW n := PW_up h k
theorem Nx.up {h : MH} {n : Int} {m k : Nat} (v : Nx h n m) (w : m ≤ k) : Nx h n k := by
  obtain ⟨x, a, b⟩ := v
  exact ⟨x, a, PW_up b w⟩
theorem pw1 {y : Int} (h : -16777216 < y ∧ y < 16777216) : (y.natAbs : Int) < PW 1 := by
  have e : PW 1 = 16777216 := rfl
  omega
def p3k : Nat → Int
  | 0 => 1
  | n + 1 => p3k n * 1000
def p4h : Nat → Int
  | 0 => 1
  | n + 1 => p4h n * 400
theorem p3k_le {i j : Nat} : i ≤ j → 0 < p3k i ∧ p3k i ≤ p3k j := by
  have pos : ∀ i, 0 < p3k i := fun i => by
    induction i with
    | zero => decide
    | succ i ih =>
      show 0 < p3k i * 1000
      omega
  intro h
  refine ⟨pos i, ?_⟩
  induction j with
  | zero =>
    rw [show i = 0 by omega]
    exact Int.le_refl _
  | succ j ih =>
    by_cases q : i = j + 1
    · rw [q]
      exact Int.le_refl _
    · have a := ih (by omega)
      have b := pos j
      show p3k i ≤ p3k j * 1000
      omega
theorem p4h_le {i j : Nat} : i ≤ j → 0 < p4h i ∧ p4h i ≤ p4h j := by
  have pos : ∀ i, 0 < p4h i := fun i => by
    induction i with
    | zero => decide
    | succ i ih =>
      show 0 < p4h i * 400
      omega
  intro h
  refine ⟨pos i, ?_⟩
  induction j with
  | zero =>
    rw [show i = 0 by omega]
    exact Int.le_refl _
  | succ j ih =>
    by_cases q : i = j + 1
    · rw [q]
      exact Int.le_refl _
    · have a := ih (by omega)
      have b := pos j
      show p4h i ≤ p4h j * 400
      omega
/-- the lower part while it grows: by c numbers up to 1000 -/
def LA (h : MH) (c : Nat) : Prop := ∃ L : Int, Nv 140 2515 2516 h 14 L ∧ 0 < L ∧ L ≤ p3k c ∧ L ∣ KA
def UA (h : MH) (c : Nat) : Prop := ∃ U : Int, Nv 140 2515 2516 h 17 U ∧ 0 < U ∧ U ≤ p4h c ∧ U ∣ KB ∧ Ud h ((c : Int) + 1) U
theorem LA.keep {h h' : MH} {T : List Int} {c : Nat} (v : LA h c) (k : Ch 140 2515 2516 T h h') (n : 14 ∉ T) : LA h' c := by
  obtain ⟨x, a, b⟩ := v
  exact ⟨x, a.keep (by decide) k (by decide) n, b⟩
theorem UA.keep {h h' : MH} {T : List Int} {c : Nat} (v : UA h c) (k : Ch 140 2515 2516 T h h') (n : 17 ∉ T) : UA h' c := by
  obtain ⟨x, a, b, d, e, f⟩ := v
  exact ⟨x, a.keep (by decide) k (by decide) n, b, d, e, f.only k.1 (by decide)⟩
theorem step_le {L b g P : Int} {k : Int} (hL : 0 < L) (hLP : L ≤ P) (hb : 0 < b) (hk : b ≤ k) (g0 : 0 < g) (gb : g ∣ b) : 0 < L * (b / g) ∧ L * (b / g) ≤ P * k ∧ 1 ≤ b / g ∧ b / g ≤ b := by
  have q0 : 1 ≤ b / g := by
    have := Int.ediv_mul_cancel gb
    by_cases w : 1 ≤ b / g
    · exact w
    · exfalso
      have : b / g * g ≤ 0 * g := Int.mul_le_mul_of_nonneg_right (by omega) (by omega)
      omega
  have q1 : b / g ≤ b := Int.ediv_le_self _ (by omega)
  exact ⟨Int.mul_pos hL (by omega), Int.mul_le_mul hLP (by omega) (by omega) (by omega), q0, q1⟩
theorem PW_mk {x y : Int} {m n k : Nat} (e : m + n = k) (hx : (x.natAbs : Int) < PW m) (hy : (y.natAbs : Int) < PW n) : ((x * y).natAbs : Int) < PW k := e ▸ PW_mul hx hy
theorem PW_abs {x y : Int} {k : Nat} (hx : 0 < x) (hy : 0 < y) (h : ((x * y).natAbs : Int) < PW k) : x * y < PW k := by
  have := Int.mul_pos hx hy
  omega
theorem p3k_PW : p3k 14 < PW 6 := by decide +kernel
theorem p4h_PW : p4h 13 < PW 5 := by decide +kernel
theorem lcm_self {L b : Int} (hL : 0 < L) (hb : 0 < b) : b ∣ L * (b / gi b (L % b)) := by
  have e0 : gi b (L % b) = gi L b := gi_mod
  rw [e0]
  obtain ⟨k, hk⟩ := gi_dl L b
  have e1 : gi L b * (b / gi L b) = b := Int.mul_ediv_cancel' (gi_dr L b)
  refine ⟨k, ?_⟩
  generalize b / gi L b = q at e1
  generalize gi L b = g at hk e1
  rw [hk, ← e1]
  rw [Int.mul_right_comm]
theorem Ud.step {h : MH} {n U V : Int} (u : Ud h n U) (d : U ∣ V) (e : (ga h 2517 n - ga h 2517 (n - 1)) ∣ V) : Ud h (n + 1) V := fun j a b => by
  by_cases q : j = n
  · rw [q]
    exact e
  · exact Int.dvd_trans (u j a (by omega)) d
