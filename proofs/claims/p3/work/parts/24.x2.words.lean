/-! X15: words and expressions -/
def NW (a : Int → Int) (b : Int) : Nat → Int
  | 0 => 0
  | n + 1 => wrI (wrI (wrI (10 * NW a b n) + a (b + n)) - 48)
/-- one word more: how deep, whether a thing is wanted, how many things -/
def SX (c l o wt th o' wt' th' : Int) : Prop :=
  (c = 40 ∧ wt = 1 ∧ o < 10 ∧ o' = o + 1 ∧ wt' = 1 ∧ th' = th) ∨
  (((48 ≤ c ∧ c ≤ 57) ∨ (l = 1 ∧ (c = 107 ∨ c = 97 ∨ c = 98 ∨ c = 99))) ∧ wt = 1 ∧ o' = o ∧ wt' = 0 ∧ th' = th + 1 ∧ th' ≤ 30) ∨
  ((c = 43 ∨ c = 45 ∨ c = 42 ∨ c = 47) ∧ wt = 0 ∧ o' = o ∧ wt' = 1 ∧ th' = th + 1 ∧ th' ≤ 30) ∨
  (c = 41 ∧ wt = 0 ∧ 0 < o ∧ o' = o - 1 ∧ wt' = 0 ∧ th' = th)
def EX (T B E : Int → Int) (f a o wt th : Int) : Prop := ∃ O W H : Int → Int, (O f = 0 ∧ W f = 1 ∧ H f = 0) ∧ (O a = o ∧ W a = wt ∧ H a = th) ∧ ∀ w, f ≤ w → w < a → SX (T (B w)) (E w - B w) (O w) (W w) (H w) (O (w + 1)) (W (w + 1)) (H (w + 1))
theorem EX.start (T B E : Int → Int) (f : Int) : EX T B E f f 0 1 0 := ⟨fun _ => 0, fun _ => 1, fun _ => 0, ⟨rfl, rfl, rfl⟩, ⟨rfl, rfl, rfl⟩, fun w a b => by omega⟩
theorem EX.step {T B E : Int → Int} {f a o wt th o' wt' th' : Int} (x : EX T B E f a o wt th) (fa : f ≤ a) (s : SX (T (B a)) (E a - B a) o wt th o' wt' th') : EX T B E f (a + 1) o' wt' th' := by
  obtain ⟨O, W, H, e1, ⟨e2, e3, e4⟩, k⟩ := x
  refine ⟨fun w => if w = a + 1 then o' else O w, fun w => if w = a + 1 then wt' else W w, fun w => if w = a + 1 then th' else H w, ?_, ⟨if_pos rfl, if_pos rfl, if_pos rfl⟩, fun w w0 w1 => ?_⟩
  · show (if _ then _ else _) = _ ∧ (if _ then _ else _) = _ ∧ (if _ then _ else _) = _
    rw [if_neg (by omega), if_neg (by omega), if_neg (by omega)]
    exact e1
  · show SX _ _ (if _ then _ else _) (if _ then _ else _) (if _ then _ else _) (if _ then _ else _) (if _ then _ else _) (if _ then _ else _)
    rw [if_neg (by omega), if_neg (by omega), if_neg (by omega)]
    by_cases q : w = a
    · subst q
      rw [if_pos rfl, if_pos rfl, if_pos rfl, e2, e3, e4]
      exact s
    · rw [if_neg (by omega), if_neg (by omega), if_neg (by omega)]
      exact k w w0 (by omega)
theorem EX.text {T T2 B E : Int → Int} {f a o wt th n : Int} (x : EX T B E f a o wt th) (k : ∀ j, 0 ≤ j → j < n → T2 j = T j) (b : ∀ w, f ≤ w → w < a → 0 ≤ B w ∧ B w < n) : EX T2 B E f a o wt th := by
  obtain ⟨O, W, H, e1, e2, s⟩ := x
  refine ⟨O, W, H, e1, e2, fun w w0 w1 => ?_⟩
  rw [k _ (b w w0 w1).1 (b w w0 w1).2]
  exact s w w0 w1
/-- how many of the first n are opened -/
def CN4 (a : Int → Int) : Nat → Int
  | 0 => 0
  | n + 1 => CN4 a n + (if a n = 40 then 1 else 0)
theorem CN4_b (a : Int → Int) (n : Nat) : 0 ≤ CN4 a n ∧ CN4 a n ≤ n := by
  induction n with
  | zero => exact ⟨Int.le_refl 0, Int.le_refl 0⟩
  | succ n ih =>
    show 0 ≤ CN4 a n + (if a n = 40 then 1 else 0) ∧ CN4 a n + (if a n = 40 then 1 else 0) ≤ _
    split <;> omega
theorem CN4_upw {a : Int → Int} {n : Nat} {i v : Int} (k : (n : Int) ≤ i) : CN4 (upw a i v) n = CN4 a n := by
  induction n with
  | zero => rfl
  | succ n ih =>
    show CN4 (upw a i v) n + (if upw a i v n = 40 then 1 else 0) = CN4 a n + (if a n = 40 then 1 else 0)
    rw [ih (by omega), upw_no (by omega) (by omega) (by omega)]
theorem CN4_s {a : Int → Int} {n : Int} (k : 0 ≤ n) : CN4 a (n + 1).toNat = CN4 a n.toNat + (if a n = 40 then 1 else 0) := by
  have e : (n + 1).toNat = n.toNat + 1 := by omega
  rw [e]
  show CN4 a n.toNat + (if a (n.toNat : Int) = 40 then 1 else 0) = _
  rw [show ((n.toNat : Nat) : Int) = n by omega]
theorem CN4_push {a : Int → Int} {n v : Int} (k : 0 ≤ n) : CN4 (upw a n v) (n + 1).toNat = CN4 a n.toNat + (if v = 40 then 1 else 0) := by
  rw [CN4_s k, CN4_upw (by omega), upw_self]
theorem CN4_pop {a : Int → Int} {n : Int} (k : 0 < n) : CN4 a n.toNat = CN4 a (n - 1).toNat + (if a (n - 1) = 40 then 1 else 0) := by
  have := CN4_s (a := a) (n := n - 1) (by omega)
  rw [show n - 1 + 1 = n by omega] at this
  exact this
