/-! X0: elimination without fractions, in place -/
/-- B is what stood at the start, C what stands now, k pivots p 0 .. p (k - 1) are taken, D is the last one -/
def GQ (n m : Nat) (B C : Nat → Nat → Rat) (k : Nat) (p : Nat → Nat) (q : Nat → Bool) (D : Rat) : Prop := D ≠ 0 ∧ D = det k (fun i j => B (p i) (p j)) ∧ (∀ i, i < k → p i < n ∧ q (p i) = true) ∧ (∀ r, r < n → q r = true → ∃ i, i < k ∧ p i = r) ∧ ∀ r c, r < n → c < m → D * B r c = sumN k (fun i => B r (p i) * C (p i) c) + (if q r = true then 0 else C r c)
theorem GQ.ini {n m : Nat} {B : Nat → Nat → Rat} : GQ n m B B 0 (fun _ => 0) (fun _ => false) 1 := ⟨by decide, rfl, fun i h => absurd h (Nat.not_lt_zero i), fun _ _ h => (Bool.false_ne_true h).elim, fun r c _ _ => by
  show 1 * B r c = 0 + (if false = true then 0 else B r c)
  rw [if_neg (by decide)]
  grind⟩
/-- what stands is a determinant of what stood -/
theorem GQ.val {n m k : Nat} {B C : Nat → Nat → Rat} {p : Nat → Nat} {q : Nat → Bool} {D : Rat} (g : GQ n m B C k p q D) (nm : n ≤ m) {r c : Nat} (hr : r < n) (hc : c < m) : ∃ (j : Nat) (M : Mx), j ≤ k + 1 ∧ C r c = det j M ∧ ∀ a b, a < j → b < j → ∃ x y, x < n ∧ y < m ∧ M a b = B x y := by
  obtain ⟨d0, eD, pn, qp, eq⟩ := g
  have tt : ∀ a, a < k → B (p a) c = sumN k fun i => C (p i) c / D * B (p a) (p i) := fun a ha => by
    have e := eq (p a) c (pn a ha).1 hc
    rw [if_pos (pn a ha).2] at e
    have e2 : sumN k (fun i => C (p i) c / D * B (p a) (p i)) = (1 / D) * sumN k (fun i => B (p a) (p i) * C (p i) c) := by
      rw [← sumN_mul]
      exact sumN_congr k fun j _ => by grind
    rw [e2]
    grind
  by_cases w : q r = true
  · obtain ⟨i, hi, er⟩ := qp r hr w
    refine ⟨k, setC (fun i j => B (p i) (p j)) i (fun a => B (p a) c), by omega, ?_, fun a b ha hb => ?_⟩
    · rw [cramer (M := fun i j => B (p i) (p j)) (t := fun i => C (p i) c / D) hi tt, ← eD, er]
      grind
    · by_cases z : b = i
      · exact ⟨p a, c, (pn a ha).1, hc, setC_eq _ z⟩
      · exact ⟨p a, p b, (pn a ha).1, Nat.lt_of_lt_of_le (pn b hb).1 nm, setC_ne _ z⟩
  · let M : Mx := fun a b => B (if a < k then p a else r) (if b < k then p b else c)
    have m1 : ∀ a b, a < k → b < k → M a b = B (p a) (p b) := fun a b ha hb => by show B _ _ = _; rw [if_pos ha, if_pos hb]
    have m2 : ∀ a, a < k → M a k = B (p a) c := fun a ha => by show B _ _ = _; rw [if_pos ha, if_neg (by omega)]
    have m3 : ∀ b, b < k → M k b = B r (p b) := fun b hb => by show B _ _ = _; rw [if_neg (by omega), if_pos hb]
    have m4 : M k k = B r c := by show B _ _ = _; rw [if_neg (by omega), if_neg (by omega)]
    refine ⟨k + 1, M, Nat.le_refl _, ?_, fun a b ha hb => ⟨_, _, ?_, ?_, rfl⟩⟩
    · rw [schur (M := M) (t := fun i => C (p i) c / D) (fun a ha => by
        rw [m2 a ha, tt a ha]
        exact sumN_congr k fun j hj => by rw [m1 a j ha hj]), m4, det_congr k (P := fun i j => B (p i) (p j)) (fun a b ha hb => m1 a b ha hb), ← eD]
      have e := eq r c hr hc
      rw [if_neg w] at e
      have e2 : sumN k (fun i => C (p i) c / D * M k i) = (1 / D) * sumN k (fun i => B r (p i) * C (p i) c) := by
        rw [← sumN_mul]
        exact sumN_congr k fun j hj => by rw [m3 j hj]; grind
      rw [e2]
      grind
    · split
      · exact (pn a (by assumption)).1
      · exact hr
    · split
      · exact Nat.lt_of_lt_of_le (pn b (by assumption)).1 nm
      · exact hc
/-- one more pivot -/
theorem GQ.step {n m k P : Nat} {B C C' : Nat → Nat → Rat} {p : Nat → Nat} {q : Nat → Bool} {D : Rat} (g : GQ n m B C k p q D) (nm : n ≤ m) (hP : P < n) (qP : q P = false) (c0 : C P P ≠ 0) (eP : ∀ c, c < m → C' P c = C P c) (er : ∀ r c, r < n → c < m → r ≠ P → D * C' r c = C r c * C P P - C r P * C P c) : GQ n m B C' (k + 1) (fun i => if i < k then p i else P) (fun r => if r = P then true else q r) (C P P) := by
  have v := g
  obtain ⟨d0, eD, pn, qp, eq⟩ := g
  have pP : ∀ i, i < k → p i ≠ P := fun i hi w => by
    have := (pn i hi).2
    rw [w, qP] at this
    exact absurd this (by decide)
  have tt : ∀ c, c < m → ∀ a, a < k → B (p a) c = sumN k fun i => C (p i) c / D * B (p a) (p i) := fun c hc a ha => by
    have e := eq (p a) c (pn a ha).1 hc
    rw [if_pos (pn a ha).2] at e
    have e2 : sumN k (fun i => C (p i) c / D * B (p a) (p i)) = (1 / D) * sumN k (fun i => B (p a) (p i) * C (p i) c) := by
      rw [← sumN_mul]
      exact sumN_congr k fun j _ => by grind
    rw [e2]
    grind
  refine ⟨c0, ?_, fun i hi => ?_, fun r hr w => ?_, fun r c hr hc => ?_⟩
  · let M : Mx := fun a b => B (if a < k then p a else P) (if b < k then p b else P)
    show C P P = det (k + 1) M
    have m1 : ∀ a b, a < k → b < k → M a b = B (p a) (p b) := fun a b ha hb => by show B _ _ = _; rw [if_pos ha, if_pos hb]
    have m2 : ∀ a, a < k → M a k = B (p a) P := fun a ha => by show B _ _ = _; rw [if_pos ha, if_neg (by omega)]
    have m3 : ∀ b, b < k → M k b = B P (p b) := fun b hb => by show B _ _ = _; rw [if_neg (by omega), if_pos hb]
    have m4 : M k k = B P P := by show B _ _ = _; rw [if_neg (by omega)]
    rw [schur (M := M) (t := fun i => C (p i) P / D) (fun a ha => by
        rw [m2 a ha, tt P (by omega) a ha]
        exact sumN_congr k fun j hj => by rw [m1 a j ha hj]), m4, det_congr k (P := fun i j => B (p i) (p j)) (fun a b ha hb => m1 a b ha hb), ← eD]
    have e := eq P P hP (by omega)
    rw [if_neg (by rw [qP]; decide)] at e
    have e2 : sumN k (fun i => C (p i) P / D * M k i) = (1 / D) * sumN k (fun i => B P (p i) * C (p i) P) := by
      rw [← sumN_mul]
      exact sumN_congr k fun j hj => by rw [m3 j hj]; grind
    rw [e2]
    grind
  · dsimp only
    by_cases w : i < k
    · rw [if_pos w, if_neg (pP i w)]
      exact pn i w
    · rw [if_neg w, if_pos rfl]
      exact ⟨hP, rfl⟩
  · dsimp only at w
    by_cases z : r = P
    · exact ⟨k, Nat.lt_succ_self k, by show (if k < k then p k else P) = r; rw [if_neg (Nat.lt_irrefl k)]; exact z.symm⟩
    · rw [if_neg z] at w
      obtain ⟨i, hi, e⟩ := qp r hr w
      exact ⟨i, by omega, by show (if i < k then p i else P) = r; rw [if_pos hi]; exact e⟩
  · have s1 : sumN (k + 1) (fun i => B r (if i < k then p i else P) * C' (if i < k then p i else P) c) = sumN k (fun i => B r (p i) * C' (p i) c) + B r P * C P c := by
      show sumN k _ + B r (if k < k then p k else P) * C' (if k < k then p k else P) c = _
      rw [if_neg (Nat.lt_irrefl k), eP c hc]
      congr 1
      exact sumN_congr k fun j hj => by rw [if_pos hj]
    have s2 : D * sumN k (fun i => B r (p i) * C' (p i) c) = C P P * sumN k (fun i => B r (p i) * C (p i) c) + (-(C P c)) * sumN k (fun i => B r (p i) * C (p i) P) := by
      rw [← sumN_mul, ← sumN_mul, ← sumN_mul, ← sumN_add]
      exact sumN_congr k fun j hj => by
        have := er (p j) c (pn j hj).1 hc (pP j hj)
        grind
    have e1 := eq r c hr hc
    have e2 := eq r P hr (by omega)
    dsimp only
    rw [s1]
    by_cases z : r = P
    · subst z
      rw [if_pos (show (if r = r then true else q r) = true from if_pos rfl)]
      rw [if_neg (by rw [qP]; decide)] at e1 e2
      generalize sumN k (fun i => B r (p i) * C' (p i) c) = x at *
      generalize sumN k (fun i => B r (p i) * C (p i) c) = y at *
      generalize sumN k (fun i => B r (p i) * C (p i) r) = y2 at *
      have : D * (C r r * B r c) = D * (x + B r r * C r c + 0) := by grind
      grind
    · have e3 := er r c hr hc z
      have qr : (if r = P then true else q r) = q r := if_neg z
      generalize sumN k (fun i => B r (p i) * C' (p i) c) = x at *
      generalize sumN k (fun i => B r (p i) * C (p i) c) = y at *
      generalize sumN k (fun i => B r (p i) * C (p i) P) = y2 at *
      by_cases w : q r = true
      · rw [if_pos w] at e1 e2
        rw [if_pos (qr.trans w)]
        have : D * (C P P * B r c) = D * (x + B r P * C P c + 0) := by grind
        grind
      · rw [if_neg w] at e1 e2
        rw [if_neg (by rw [qr]; exact w)]
        have : D * (C P P * B r c) = D * (x + B r P * C P c + C' r c) := by grind
        grind
