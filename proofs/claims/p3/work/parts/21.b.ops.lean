/-! what the instructions make of intervals -/
abbrev AR : Type := Vl ⊕ (Iv × Dc)
def up (ρ : Nat → Int) (n : Nat) (z : Int) : Nat → Int := fun b => if b = n then z else ρ b
theorem up_at (ρ : Nat → Int) (n : Nat) (z : Int) : up ρ n z n = z := if_pos rfl
theorem up_lt {ρ : Nat → Int} {n : Nat} {z : Int} {b : Nat} (h : b < n) : up ρ n z b = ρ b := if_neg (by omega)
/-- r tells z (the next number is n) -/
def AROk (T : Tc) (ρ : Nat → Int) (n t : Nat) (z : Int) (r : AR) : Prop := match r with
  | .inl v => v.1 = t ∧ v.2.1 < n ∧ ρ v.2.1 + v.2.2 = z
  | .inr q => ivOk T q.1 z ∧ DcOk (up ρ n z) (n + 1) q.2
def fI : Iv := (Int.negSucc 2147483647, Int.ofNat 2147483647, 0)
def fL : Iv := (Int.negSucc 9223372036854775807, Int.ofNat 9223372036854775807, 0)
def fT (t : Nat) : Iv := if Nat.beq t 0 then fI else fL
def wrT (t : Nat) (z : Int) : Int := if Nat.beq t 0 then wrI z else wrL z
def inT (t : Nat) (lo hi : Int) : Bool := decide ((fT t).1 ≤ lo) && decide (hi ≤ (fT t).2.1)
theorem inT_of {t : Nat} {lo hi z : Int} (h : inT t lo hi = true) (h1 : lo ≤ z) (h2 : z ≤ hi) : wrT t z = z ∧ (fT t).1 ≤ z ∧ z ≤ (fT t).2.1 := by
  unfold inT at h
  rw [Bool.and_eq_true] at h
  have a := of_decide_eq_true h.1
  have b := of_decide_eq_true h.2
  refine ⟨?_, by omega, by omega⟩
  unfold wrT
  unfold fT at a b
  split
  · next q =>
    rw [if_pos q] at a b
    have a : -2147483648 ≤ lo := a
    have b : hi ≤ 2147483647 := b
    exact wrI_id ⟨by omega, by omega⟩
  · next q =>
    rw [if_neg q] at a b
    have a : -9223372036854775808 ≤ lo := a
    have b : hi ≤ 9223372036854775807 := b
    exact wrL_id ⟨by omega, by omega⟩
theorem fT_wr (T : Tc) (t : Nat) (z : Int) : ivOk T (fT t) (wrT t z) := by
  unfold fT wrT
  split
  · exact ⟨(wrI_rng z).1, (wrI_rng z).2, fun q => absurd rfl q⟩
  · exact ⟨(wrL_rng z).1, (wrL_rng z).2, fun q => absurd rfl q⟩
theorem DcOk.nil (ρ : Nat → Int) (n : Nat) : DcOk ρ n [] := fun _ h => absurd h List.not_mem_nil
theorem DcOk.cons {ρ : Nat → Int} {n : Nat} {ds : Dc} (D : DcOk ρ n ds) {a b : Nat} {c : Int} (ha : a < n) (hb : b < n) (h : ρ a ≤ ρ b + c) : DcOk ρ n ((a, b, c) :: ds) := fun q hq => (List.mem_cons.mp hq).elim (fun e => e ▸ ⟨ha, hb, h⟩) (D q)
/-- the new one is at most the old one and c -/
theorem DcOk.nw {ρ : Nat → Int} {n : Nat} {z : Int} {ds : Dc} (D : DcOk (up ρ n z) (n + 1) ds) {b : Nat} {c : Int} (hb : b < n) (h : z ≤ ρ b + c) : DcOk (up ρ n z) (n + 1) ((n, b, c) :: ds) := D.cons (by omega) (by omega) (by rw [up_at, up_lt hb]; exact h)
theorem DcOk.od {ρ : Nat → Int} {n : Nat} {z : Int} {ds : Dc} (D : DcOk (up ρ n z) (n + 1) ds) {b : Nat} {c : Int} (hb : b < n) (h : ρ b ≤ z + c) : DcOk (up ρ n z) (n + 1) ((b, n, c) :: ds) := D.cons (by omega) (by omega) (by rw [up_at, up_lt hb]; exact h)
def iLe (a b : Int) : Int := if a ≤ b then a else b
def iGe (a b : Int) : Int := if a ≤ b then b else a
theorem iLe_of (a b : Int) : iLe a b ≤ a ∧ iLe a b ≤ b ∧ (iLe a b = a ∨ iLe a b = b) := by
  unfold iLe
  split <;> omega
theorem iGe_of (a b : Int) : a ≤ iGe a b ∧ b ≤ iGe a b ∧ (iGe a b = a ∨ iGe a b = b) := by
  unfold iGe
  split <;> omega
def aAdd (t n : Nat) (x y : Vl) (a b : Iv) : AR := if inT t (a.1 + b.1) (a.2.1 + b.2.1) then
    (if Nat.beq y.2.1 0 then .inl (t, x.2.1, x.2.2 + y.2.2) else if Nat.beq x.2.1 0 then .inl (t, y.2.1, y.2.2 + x.2.2) else .inr ((a.1 + b.1, a.2.1 + b.2.1, 0), [(n, x.2.1, x.2.2 + b.2.1), (x.2.1, n, -x.2.2 - b.1), (n, y.2.1, y.2.2 + a.2.1), (y.2.1, n, -y.2.2 - a.1)]))
  else .inr (fT t, [])
section AB
variable {T : Tc} {ρ : Nat → Int} {env : List Iv} {dc : Dc} {x y : Vl} {a b : Iv} {t : Nat}
theorem aAdd_of (R : RelE T ρ env) (ha : ivOf env x = some a) (hb : ivOf env y = some b) : AROk T ρ env.length t (wrT t ((ρ x.2.1 + x.2.2) + (ρ y.2.1 + y.2.2))) (aAdd t env.length x y a b) := by
  have ka := ivOf_of R ha
  have kb := ivOf_of R hb
  have la := ivOf_lt R.1 ha
  have lb := ivOf_lt R.1 hb
  have ka1 := ka.1
  have ka2 := ka.2.1
  have kb1 := kb.1
  have kb2 := kb.2.1
  unfold aAdd
  split
  · next q =>
    have w := inT_of q (z := (ρ x.2.1 + x.2.2) + (ρ y.2.1 + y.2.2)) (by omega) (by omega)
    rw [w.1]
    split
    · next q2 =>
      have e : ρ y.2.1 = 0 := by rw [Nat.eq_of_beq_eq_true q2]; exact R.2.1
      exact ⟨rfl, la, by show ρ x.2.1 + (x.2.2 + y.2.2) = _; omega⟩
    · split
      · next q2 =>
        have e : ρ x.2.1 = 0 := by rw [Nat.eq_of_beq_eq_true q2]; exact R.2.1
        exact ⟨rfl, lb, by show ρ y.2.1 + (y.2.2 + x.2.2) = _; omega⟩
      · exact ⟨⟨by show a.1 + b.1 ≤ _; omega, by show _ ≤ a.2.1 + b.2.1; omega, fun q => absurd rfl q⟩, ((((DcOk.nil _ _).od lb (by omega)).nw lb (by omega)).od la (by omega)).nw la (by omega)⟩
  · exact ⟨fT_wr T t _, DcOk.nil _ _⟩
def aSub (t : Nat) (env : List Iv) (dc : Dc) (x y : Vl) (a b : Iv) : AR := if inT t (a.1 - b.2.1) (a.2.1 - b.1) then
    (if Nat.beq y.2.1 0 then .inl (t, x.2.1, x.2.2 - y.2.2) else match dUB env dc x y, dUB env dc y x with
      | some u, some l => .inr ((iGe (a.1 - b.2.1) (-l), iLe (a.2.1 - b.1) u, 0), [(env.length, x.2.1, x.2.2 - b.1), (x.2.1, env.length, b.2.1 - x.2.2)])
      | _, _ => .inr ((a.1 - b.2.1, a.2.1 - b.1, 0), []))
  else .inr (fT t, [])
theorem aSub_of (R : RelE T ρ env) (D : DcOk ρ env.length dc) (ha : ivOf env x = some a) (hb : ivOf env y = some b) : AROk T ρ env.length t (wrT t ((ρ x.2.1 + x.2.2) - (ρ y.2.1 + y.2.2))) (aSub t env dc x y a b) := by
  have ka := ivOf_of R ha
  have kb := ivOf_of R hb
  have la := ivOf_lt R.1 ha
  have lb := ivOf_lt R.1 hb
  have ka1 := ka.1
  have ka2 := ka.2.1
  have kb1 := kb.1
  have kb2 := kb.2.1
  unfold aSub
  split
  · next q =>
    have w := inT_of q (z := (ρ x.2.1 + x.2.2) - (ρ y.2.1 + y.2.2)) (by omega) (by omega)
    rw [w.1]
    split
    · next q2 =>
      have e : ρ y.2.1 = 0 := by rw [Nat.eq_of_beq_eq_true q2]; exact R.2.1
      exact ⟨rfl, la, by show ρ x.2.1 + (x.2.2 - y.2.2) = _; omega⟩
    · split
      · next u l hu hl =>
        have u1 := dUB_of R D hu
        have l1 := dUB_of R D hl
        have g := iGe_of (a.1 - b.2.1) (-l)
        have e := iLe_of (a.2.1 - b.1) u
        refine ⟨⟨by show iGe _ _ ≤ _; omega, by show _ ≤ iLe _ _; omega, fun q => absurd rfl q⟩, ((DcOk.nil _ _).od la (by omega)).nw la (by omega)⟩
      · exact ⟨⟨by show a.1 - b.2.1 ≤ _; omega, by show _ ≤ a.2.1 - b.1; omega, fun q => absurd rfl q⟩, DcOk.nil _ _⟩
  · exact ⟨fT_wr T t _, DcOk.nil _ _⟩
theorem mulHi {a b c d x y m : Int} (h1 : a ≤ x) (h2 : x ≤ b) (h3 : c ≤ y) (h4 : y ≤ d) (p1 : a * c ≤ m) (p2 : a * d ≤ m) (p3 : b * c ≤ m) (p4 : b * d ≤ m) : x * y ≤ m := by
  have q : ∀ e : Int, e * c ≤ m → e * d ≤ m → e * y ≤ m := fun e k1 k2 => by
    rcases Int.le_total 0 e with z | z
    · exact Int.le_trans (Int.mul_le_mul_of_nonneg_left h4 z) k2
    · exact Int.le_trans (Int.mul_le_mul_of_nonpos_left z h3) k1
  rcases Int.le_total 0 y with z | z
  · exact Int.le_trans (Int.mul_le_mul_of_nonneg_right h2 z) (q b p3 p4)
  · exact Int.le_trans (Int.mul_le_mul_of_nonpos_right h1 z) (q a p1 p2)
theorem mulLo {a b c d x y m : Int} (h1 : a ≤ x) (h2 : x ≤ b) (h3 : c ≤ y) (h4 : y ≤ d) (p1 : m ≤ a * c) (p2 : m ≤ a * d) (p3 : m ≤ b * c) (p4 : m ≤ b * d) : m ≤ x * y := by
  have := mulHi (a := a) (b := b) (c := -d) (d := -c) (x := x) (y := -y) (m := -m) h1 h2 (by omega) (by omega) (by rw [Int.mul_neg]; omega) (by rw [Int.mul_neg]; omega) (by rw [Int.mul_neg]; omega) (by rw [Int.mul_neg]; omega)
  rw [Int.mul_neg] at this
  omega
def aMul (t : Nat) (a b : Iv) : AR :=
  let lo := iLe (iLe (a.1 * b.1) (a.1 * b.2.1)) (iLe (a.2.1 * b.1) (a.2.1 * b.2.1))
  let hi := iGe (iGe (a.1 * b.1) (a.1 * b.2.1)) (iGe (a.2.1 * b.1) (a.2.1 * b.2.1))
  if inT t lo hi then (if decide (lo = hi) then .inl (t, 0, lo) else .inr ((lo, hi, 0), [])) else .inr (fT t, [])
theorem aMul_of (R : RelE T ρ env) (ha : ivOf env x = some a) (hb : ivOf env y = some b) : AROk T ρ env.length t (wrT t ((ρ x.2.1 + x.2.2) * (ρ y.2.1 + y.2.2))) (aMul t a b) := by
  have ka := ivOf_of R ha
  have kb := ivOf_of R hb
  unfold aMul
  have o1 := iLe_of (a.1 * b.1) (a.1 * b.2.1)
  have o2 := iLe_of (a.2.1 * b.1) (a.2.1 * b.2.1)
  have o3 := iLe_of (iLe (a.1 * b.1) (a.1 * b.2.1)) (iLe (a.2.1 * b.1) (a.2.1 * b.2.1))
  have g1 := iGe_of (a.1 * b.1) (a.1 * b.2.1)
  have g2 := iGe_of (a.2.1 * b.1) (a.2.1 * b.2.1)
  have g3 := iGe_of (iGe (a.1 * b.1) (a.1 * b.2.1)) (iGe (a.2.1 * b.1) (a.2.1 * b.2.1))
  have lo := mulLo ka.1 ka.2.1 kb.1 kb.2.1 (Int.le_trans o3.1 o1.1) (Int.le_trans o3.1 o1.2.1) (Int.le_trans o3.2.1 o2.1) (Int.le_trans o3.2.1 o2.2.1)
  have hi := mulHi ka.1 ka.2.1 kb.1 kb.2.1 (Int.le_trans g1.1 g3.1) (Int.le_trans g1.2.1 g3.1) (Int.le_trans g2.1 g3.2.1) (Int.le_trans g2.2.1 g3.2.1)
  show AROk T ρ env.length t _ (if _ then _ else _)
  split
  · next q =>
    rw [(inT_of q lo hi).1]
    split
    · next q2 =>
      have e := of_decide_eq_true q2
      exact ⟨rfl, R.1, by have z0 := R.2.1; simp only [z0]; omega⟩
    · exact ⟨⟨lo, hi, fun q => absurd rfl q⟩, DcOk.nil _ _⟩
  · exact ⟨fT_wr T t _, DcOk.nil _ _⟩
def aNeg (t : Nat) (x : Vl) (a : Iv) : AR := if inT t (-a.2.1) (-a.1) then (if Nat.beq x.2.1 0 then .inl (t, 0, -x.2.2) else .inr ((-a.2.1, -a.1, 0), [])) else .inr (fT t, [])
theorem aNeg_of (R : RelE T ρ env) (ha : ivOf env x = some a) : AROk T ρ env.length t (wrT t (-(ρ x.2.1 + x.2.2))) (aNeg t x a) := by
  have ka := ivOf_of R ha
  have ka1 := ka.1
  have ka2 := ka.2.1
  unfold aNeg
  split
  · next q =>
    rw [(inT_of q (z := -(ρ x.2.1 + x.2.2)) (by omega) (by omega)).1]
    split
    · next q2 =>
      have e : ρ x.2.1 = 0 := by rw [Nat.eq_of_beq_eq_true q2]; exact R.2.1
      exact ⟨rfl, R.1, by have z0 := R.2.1; simp only [z0]; omega⟩
    · exact ⟨⟨by show -a.2.1 ≤ _; omega, by show _ ≤ -a.1; omega, fun q => absurd rfl q⟩, DcOk.nil _ _⟩
  · exact ⟨fT_wr T t _, DcOk.nil _ _⟩
/-- dividing; none: it may be by 0, or go beyond -/
def aDiv (t n : Nat) (x : Vl) (a b : Iv) : Option AR :=
  if decide (1 ≤ b.1) then
    (if decide (0 ≤ a.1) then some (.inr ((a.1 / b.2.1, a.2.1 / b.1, 0), [(n, x.2.1, if decide (1 ≤ a.1) && decide (2 ≤ b.1) then x.2.2 - 1 else x.2.2)]))
    else if decide (b.1 = b.2.1) then some (.inr ((a.1.tdiv b.1, a.2.1.tdiv b.1, 0), [])) else some (.inr ((iLe a.1 0, iGe a.2.1 0, 0), [])))
  else if decide (b.2.1 < 0) && (decide ((fT t).1 < a.1) && decide (a.2.1 ≤ (fT t).2.1)) then some (.inr (((fT t).1 + 1, (fT t).2.1, 0), [])) else none
theorem tdivP2 {x y : Int} (hx : x ≤ 0) (hy : 0 < y) : x ≤ x.tdiv y ∧ x.tdiv y ≤ 0 := by
  have h := m_tdivP (x := -x) (y := y) (by omega) hy
  rw [Int.neg_tdiv] at h
  omega
theorem fT_sym (t : Nat) : (fT t).1 + 1 = -(fT t).2.1 := by
  unfold fT
  split <;> rfl
theorem aDiv_of (R : RelE T ρ env) (ha : ivOf env x = some a) (hb : ivOf env y = some b) {r : AR} (h : aDiv t env.length x a b = some r) : (ρ y.2.1 + y.2.2) ≠ 0 ∧ AROk T ρ env.length t ((ρ x.2.1 + x.2.2).tdiv (ρ y.2.1 + y.2.2)) r := by
  have ka := ivOf_of R ha
  have kb := ivOf_of R hb
  have la := ivOf_lt R.1 ha
  obtain ⟨ka1, ka2, -⟩ := ka
  obtain ⟨kb1, kb2, -⟩ := kb
  generalize hX : ρ x.2.1 + x.2.2 = X at *
  generalize hY : ρ y.2.1 + y.2.2 = Y at *
  unfold aDiv at h
  split at h
  · next q =>
    have q := of_decide_eq_true q
    refine ⟨by omega, ?_⟩
    split at h
    · next q2 =>
      have q2 := of_decide_eq_true q2
      cases h
      have p := m_tdivP (x := X) (y := Y) (by omega) (by omega)
      have d := m_divB (a := a.1) (b := a.2.1) (c := b.1) (d := b.2.1) p ⟨ka1, ka2⟩ ⟨kb1, kb2⟩ ⟨by omega, q2, rfl, rfl⟩
      refine ⟨⟨d.1, d.2, fun q => absurd rfl q⟩, (DcOk.nil _ _).nw la ?_⟩
      split
      · next q3 =>
        rw [Bool.and_eq_true] at q3
        have e1 := of_decide_eq_true q3.1
        have e2 := of_decide_eq_true q3.2
        have p1 := p.1
        have p3 := p.2.2.1
        generalize X.tdiv Y = Z at *
        rcases Int.lt_or_eq_of_le p1 with z | z
        · have : Z * 2 ≤ Z * Y := Int.mul_le_mul_of_nonneg_left (by omega) p1
          omega
        · omega
      · omega
    · next q2 =>
      split at h
      · next q3 =>
        cases h
        have q3 := of_decide_eq_true q3
        have e : Y = b.1 := by omega
        rw [e]
        exact ⟨⟨Int.tdiv_le_tdiv (by omega) ka1, Int.tdiv_le_tdiv (by omega) ka2, fun q => absurd rfl q⟩, DcOk.nil _ _⟩
      · cases h
        have o := iLe_of a.1 0
        have g := iGe_of a.2.1 0
        refine ⟨⟨?_, ?_, fun q => absurd rfl q⟩, DcOk.nil _ _⟩
        · show iLe a.1 0 ≤ _
          rcases Int.le_total 0 X with z | z
          · have := m_tdivP (x := X) (y := Y) z (by omega)
            omega
          · have := tdivP2 (x := X) (y := Y) z (by omega)
            omega
        · show _ ≤ iGe a.2.1 0
          rcases Int.le_total 0 X with z | z
          · have := m_tdivP (x := X) (y := Y) z (by omega)
            omega
          · have := tdivP2 (x := X) (y := Y) z (by omega)
            omega
  · split at h
    · next q =>
      cases h
      rw [Bool.and_eq_true, Bool.and_eq_true] at q
      have e1 := of_decide_eq_true q.1
      have e2 := of_decide_eq_true q.2.1
      have e3 := of_decide_eq_true q.2.2
      have s := fT_sym t
      have p := m_tdivG (x := X) (y := Y) (M := (fT t).2.1) (by omega) (by omega)
      exact ⟨by omega, ⟨by show (fT t).1 + 1 ≤ _; omega, p.2, fun q => absurd rfl q⟩, DcOk.nil _ _⟩
    · cases h
def aRem (n : Nat) (x y : Vl) (a b : Iv) : Option AR :=
  if decide (1 ≤ b.1) then
    (if decide (0 ≤ a.1) then some (.inr ((0, iLe a.2.1 (b.2.1 - 1), 0), [(n, x.2.1, x.2.2), (n, y.2.1, y.2.2 - 1)]))
    else some (.inr ((1 - b.2.1, b.2.1 - 1, 0), [])))
  else if decide (b.2.1 < 0) then some (.inr ((1 + b.1, -b.1 - 1, 0), [])) else none
theorem aRem_of (R : RelE T ρ env) (ha : ivOf env x = some a) (hb : ivOf env y = some b) {r : AR} (h : aRem env.length x y a b = some r) : (ρ y.2.1 + y.2.2) ≠ 0 ∧ AROk T ρ env.length t ((ρ x.2.1 + x.2.2).tmod (ρ y.2.1 + y.2.2)) r := by
  have ka := ivOf_of R ha
  have kb := ivOf_of R hb
  have la := ivOf_lt R.1 ha
  have lb := ivOf_lt R.1 hb
  obtain ⟨ka1, ka2, -⟩ := ka
  obtain ⟨kb1, kb2, -⟩ := kb
  generalize hX : ρ x.2.1 + x.2.2 = X at *
  generalize hY : ρ y.2.1 + y.2.2 = Y at *
  unfold aRem at h
  split at h
  · next q =>
    have q := of_decide_eq_true q
    refine ⟨by omega, ?_⟩
    split at h
    · next q2 =>
      have q2 := of_decide_eq_true q2
      cases h
      have p := m_tmodP (x := X) (y := Y) (by omega) (by omega)
      have o := iLe_of a.2.1 (b.2.1 - 1)
      exact ⟨⟨p.1, by show _ ≤ iLe _ _; omega, fun q => absurd rfl q⟩, ((DcOk.nil _ _).nw lb (by omega)).nw la (by omega)⟩
    · cases h
      have p := m_tmodG (x := X) (y := Y) (M := b.2.1) (by omega) (by omega) (by omega)
      exact ⟨⟨by show 1 - b.2.1 ≤ _; omega, by show _ ≤ b.2.1 - 1; omega, fun q => absurd rfl q⟩, DcOk.nil _ _⟩
  · split at h
    · next q =>
      cases h
      have q := of_decide_eq_true q
      have p := m_tmodG (x := X) (y := Y) (M := -b.1) (by omega) (by omega) (by omega)
      exact ⟨by omega, ⟨by show 1 + b.1 ≤ _; omega, by show _ ≤ -b.1 - 1; omega, fun q => absurd rfl q⟩, DcOk.nil _ _⟩
    · cases h
def aMin (n : Nat) (x y : Vl) (a b : Iv) : AR := .inr ((iLe a.1 b.1, iLe a.2.1 b.2.1, 0), [(n, x.2.1, x.2.2), (n, y.2.1, y.2.2)])
def aMax (n : Nat) (x y : Vl) (a b : Iv) : AR := .inr ((iGe a.1 b.1, iGe a.2.1 b.2.1, 0), [(x.2.1, n, -x.2.2), (y.2.1, n, -y.2.2)])
theorem aMin_of (R : RelE T ρ env) (ha : ivOf env x = some a) (hb : ivOf env y = some b) : AROk T ρ env.length t (iMin (ρ x.2.1 + x.2.2) (ρ y.2.1 + y.2.2)) (aMin env.length x y a b) := by
  have ka := ivOf_of R ha
  have kb := ivOf_of R hb
  have la := ivOf_lt R.1 ha
  have lb := ivOf_lt R.1 hb
  obtain ⟨ka1, ka2, -⟩ := ka
  obtain ⟨kb1, kb2, -⟩ := kb
  have o1 := iLe_of a.1 b.1
  have o2 := iLe_of a.2.1 b.2.1
  have m : iMin (ρ x.2.1 + x.2.2) (ρ y.2.1 + y.2.2) ≤ ρ x.2.1 + x.2.2 ∧ iMin (ρ x.2.1 + x.2.2) (ρ y.2.1 + y.2.2) ≤ ρ y.2.1 + y.2.2 ∧ (iMin (ρ x.2.1 + x.2.2) (ρ y.2.1 + y.2.2) = ρ x.2.1 + x.2.2 ∨ iMin (ρ x.2.1 + x.2.2) (ρ y.2.1 + y.2.2) = ρ y.2.1 + y.2.2) := by
    unfold iMin
    split <;> omega
  exact ⟨⟨by show iLe _ _ ≤ _; omega, by show _ ≤ iLe _ _; omega, fun q => absurd rfl q⟩, ((DcOk.nil _ _).nw lb (by omega)).nw la (by omega)⟩
theorem aMax_of (R : RelE T ρ env) (ha : ivOf env x = some a) (hb : ivOf env y = some b) : AROk T ρ env.length t (iMax (ρ x.2.1 + x.2.2) (ρ y.2.1 + y.2.2)) (aMax env.length x y a b) := by
  have ka := ivOf_of R ha
  have kb := ivOf_of R hb
  have la := ivOf_lt R.1 ha
  have lb := ivOf_lt R.1 hb
  obtain ⟨ka1, ka2, -⟩ := ka
  obtain ⟨kb1, kb2, -⟩ := kb
  have o1 := iGe_of a.1 b.1
  have o2 := iGe_of a.2.1 b.2.1
  have m : ρ x.2.1 + x.2.2 ≤ iMax (ρ x.2.1 + x.2.2) (ρ y.2.1 + y.2.2) ∧ ρ y.2.1 + y.2.2 ≤ iMax (ρ x.2.1 + x.2.2) (ρ y.2.1 + y.2.2) ∧ (iMax (ρ x.2.1 + x.2.2) (ρ y.2.1 + y.2.2) = ρ x.2.1 + x.2.2 ∨ iMax (ρ x.2.1 + x.2.2) (ρ y.2.1 + y.2.2) = ρ y.2.1 + y.2.2) := by
    unfold iMax
    split <;> omega
  exact ⟨⟨by show iGe _ _ ≤ _; omega, by show _ ≤ iGe _ _; omega, fun q => absurd rfl q⟩, ((DcOk.nil _ _).od lb (by omega)).od la (by omega)⟩
/-- bits -/
def aAnd (t : Nat) (a b : Iv) : AR := if decide (0 ≤ b.1) && decide (b.2.1 ≤ (fT t).2.1) then .inr ((0, b.2.1, 0), []) else if decide (0 ≤ a.1) && decide (a.2.1 ≤ (fT t).2.1) then .inr ((0, a.2.1, 0), []) else .inr (fT t, [])
theorem aAndI_of (R : RelE T ρ env) (ha : ivOf env x = some a) (hb : ivOf env y = some b) : AROk T ρ env.length 0 ((Int32.ofInt (ρ x.2.1 + x.2.2) &&& Int32.ofInt (ρ y.2.1 + y.2.2)).toInt) (aAnd 0 a b) := by
  obtain ⟨ka1, ka2, -⟩ := ivOf_of R ha
  obtain ⟨kb1, kb2, -⟩ := ivOf_of R hb
  unfold aAnd
  split
  · next q =>
    rw [Bool.and_eq_true] at q
    have e1 := of_decide_eq_true q.1
    have e2 : b.2.1 ≤ 2147483647 := of_decide_eq_true q.2
    have p := m_iandB (x := ρ x.2.1 + x.2.2) (y := ρ y.2.1 + y.2.2) (b := b.2.1) (by omega) kb2 e2
    exact ⟨⟨p.1, p.2, fun q => absurd rfl q⟩, DcOk.nil _ _⟩
  · split
    · next q =>
      rw [Bool.and_eq_true] at q
      have e1 := of_decide_eq_true q.1
      have e2 : a.2.1 ≤ 2147483647 := of_decide_eq_true q.2
      have p := m_iandB' (x := ρ x.2.1 + x.2.2) (y := ρ y.2.1 + y.2.2) (b := a.2.1) (by omega) ka2 e2
      exact ⟨⟨p.1, p.2, fun q => absurd rfl q⟩, DcOk.nil _ _⟩
    · have p := m_i32 (Int32.ofInt (ρ x.2.1 + x.2.2) &&& Int32.ofInt (ρ y.2.1 + y.2.2))
      exact ⟨⟨p.1, p.2, fun q => absurd rfl q⟩, DcOk.nil _ _⟩
theorem aAndL_of (R : RelE T ρ env) (ha : ivOf env x = some a) (hb : ivOf env y = some b) : AROk T ρ env.length 1 ((Int64.ofInt (ρ x.2.1 + x.2.2) &&& Int64.ofInt (ρ y.2.1 + y.2.2)).toInt) (aAnd 1 a b) := by
  obtain ⟨ka1, ka2, -⟩ := ivOf_of R ha
  obtain ⟨kb1, kb2, -⟩ := ivOf_of R hb
  unfold aAnd
  split
  · next q =>
    rw [Bool.and_eq_true] at q
    have e1 := of_decide_eq_true q.1
    have e2 : b.2.1 ≤ 9223372036854775807 := of_decide_eq_true q.2
    have p := m_landB (x := ρ x.2.1 + x.2.2) (y := ρ y.2.1 + y.2.2) (b := b.2.1) (by omega) kb2 e2
    exact ⟨⟨p.1, p.2, fun q => absurd rfl q⟩, DcOk.nil _ _⟩
  · split
    · next q =>
      rw [Bool.and_eq_true] at q
      have e1 := of_decide_eq_true q.1
      have e2 : a.2.1 ≤ 9223372036854775807 := of_decide_eq_true q.2
      have p := m_landB' (x := ρ x.2.1 + x.2.2) (y := ρ y.2.1 + y.2.2) (b := a.2.1) (by omega) ka2 e2
      exact ⟨⟨p.1, p.2, fun q => absurd rfl q⟩, DcOk.nil _ _⟩
    · have p := m_i64 (Int64.ofInt (ρ x.2.1 + x.2.2) &&& Int64.ofInt (ρ y.2.1 + y.2.2))
      exact ⟨⟨p.1, p.2, fun q => absurd rfl q⟩, DcOk.nil _ _⟩
/-- the least power of two that is more -/
def pow2 (z : Nat) : Nat := Nat.log2 z + 1
def aOrI (a b : Iv) : AR := if decide (0 ≤ a.1) && (decide (0 ≤ b.1) && (decide (a.2.1 ≤ 2147483647) && decide (b.2.1 ≤ 2147483647))) then .inr ((0, 2 ^ pow2 (iGe a.2.1 b.2.1).toNat - 1, 0), []) else .inr (fI, [])
theorem aOrI_of (R : RelE T ρ env) (ha : ivOf env x = some a) (hb : ivOf env y = some b) : AROk T ρ env.length 0 ((Int32.ofInt (ρ x.2.1 + x.2.2) ||| Int32.ofInt (ρ y.2.1 + y.2.2)).toInt) (aOrI a b) := by
  obtain ⟨ka1, ka2, -⟩ := ivOf_of R ha
  obtain ⟨kb1, kb2, -⟩ := ivOf_of R hb
  unfold aOrI
  split
  · next q =>
    rw [Bool.and_eq_true, Bool.and_eq_true, Bool.and_eq_true] at q
    have e1 := of_decide_eq_true q.1
    have e2 := of_decide_eq_true q.2.1
    have e3 := of_decide_eq_true q.2.2.1
    have e4 := of_decide_eq_true q.2.2.2
    have g := iGe_of a.2.1 b.2.1
    have hn : (iGe a.2.1 b.2.1).toNat < 2 ^ pow2 (iGe a.2.1 b.2.1).toNat := Nat.lt_log2_self
    have hk : pow2 (iGe a.2.1 b.2.1).toNat ≤ 31 := by
      unfold pow2
      rcases Nat.eq_zero_or_pos (iGe a.2.1 b.2.1).toNat with z | z
      · rw [z]; decide
      · have := (Nat.log2_lt (k := 31) (by omega)).mpr (show (iGe a.2.1 b.2.1).toNat < 2 ^ 31 by omega)
        omega
    have hi : (iGe a.2.1 b.2.1) < (2 : Int) ^ pow2 (iGe a.2.1 b.2.1).toNat := by
      have : ((iGe a.2.1 b.2.1).toNat : Int) < ((2 ^ pow2 (iGe a.2.1 b.2.1).toNat : Nat) : Int) := Int.ofNat_lt.mpr hn
      rw [Int.natCast_pow] at this
      have e : ((iGe a.2.1 b.2.1).toNat : Int) = iGe a.2.1 b.2.1 := Int.toNat_of_nonneg (by omega)
      rw [e] at this
      exact this
    have p := m_iorB (x := ρ x.2.1 + x.2.2) (y := ρ y.2.1 + y.2.2) (pow2 (iGe a.2.1 b.2.1).toNat) hk ⟨by omega, by omega⟩ ⟨by omega, by omega⟩
    exact ⟨⟨p.1, by show _ ≤ (2 : Int) ^ _ - 1; omega, fun q => absurd rfl q⟩, DcOk.nil _ _⟩
  · have p := m_i32 (Int32.ofInt (ρ x.2.1 + x.2.2) ||| Int32.ofInt (ρ y.2.1 + y.2.2))
    exact ⟨⟨p.1, p.2, fun q => absurd rfl q⟩, DcOk.nil _ _⟩
theorem fI_any (z : Int32) : ivOk T fI z.toInt := ⟨(m_i32 z).1, (m_i32 z).2, fun q => absurd rfl q⟩
theorem fL_any (z : Int64) : ivOk T fL z.toInt := ⟨(m_i64 z).1, (m_i64 z).2, fun q => absurd rfl q⟩
end AB
