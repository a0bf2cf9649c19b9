/-! X15: words at hand, what the expressions are -/
def EW (h : MH) : Prop := ga h 2598 (ga h 2595 4) = ga h 2599 (ga h 2595 4)
theorem EW.wd {h h' : MH} {cs : List Nat} {fs : List Int} (e : EW h) (w : Wd 2595 cs fs h h') (a : 2598 ∉ 2595 :: cs) (b : 2599 ∉ 2595 :: cs) (c : (4 : Int) ∉ fs) : EW h' := by
  unfold EW
  rw [w.arF a, w.arF b, w.fld (by decide) c]
  exact e
theorem J15.wb {h : MH} (j : J15 h) (e : EW h) {a : Int} (a0 : 0 ≤ a) (a1 : a ≤ ga h 2595 4) : (a < ga h 2595 4 ∧ ga h 2598 a < ga h 2599 a) ∨ (a = ga h 2595 4 ∧ ga h 2598 a = ga h 2599 a) := by
  by_cases q : a = ga h 2595 4
  · exact Or.inr ⟨q, by rw [q]; exact e⟩
  · exact Or.inl ⟨by omega, (j.ws a a0 (by omega)).2.1⟩
/-- of a text: all items' expressions are right -/
def ET (c : Nat) (h : MH) : Prop := ∀ i : Int, 0 ≤ i → i < ga h 2595 7 → ∃ th, EX (ga h c) (ga h 2598) (ga h 2599) (ga h 2601 i) (ga h 2602 i) 0 0 th
theorem ET.wd {c : Nat} {h h' : MH} {cs : List Nat} {fs : List Int} (e : ET c h) (w : Wd 2595 cs fs h h') (a : ∀ x ∈ [c, 2598, 2599, 2601, 2602], x ∉ 2595 :: cs) (f : (7 : Int) ∉ fs) : ET c h' := by
  unfold ET
  rw [w.arF (a c List.mem_cons_self), w.arF (a 2598 (by simp)), w.arF (a 2599 (by simp)), w.arF (a 2601 (by simp)), w.arF (a 2602 (by simp)), w.fld (by decide) f]
  exact e
theorem ET.none {c : Nat} {h : MH} (e : ga h 2595 7 ≤ 0) : ET c h := fun i a b => by omega
theorem ET.add {c : Nat} {h : MH} {h2 : MH} {n : Int} (e : ET c h) (w : Wd 2595 [2600, 2601, 2602, 2603] [7, 13] h h2) (c0 : c ∉ [2595, 2600, 2601, 2602, 2603]) (n0 : ga h 2595 7 = n) (n1 : ga h2 2595 7 = n + 1) (k : ∀ i, 0 ≤ i → i < n → ga h2 2601 i = ga h 2601 i ∧ ga h2 2602 i = ga h 2602 i) {th : Int} (x : EX (ga h c) (ga h 2598) (ga h 2599) (ga h2 2601 n) (ga h2 2602 n) 0 0 th) : ET c h2 := fun i a b => by
  rw [w.arF c0, w.arF (c := 2598) (by decide), w.arF (c := 2599) (by decide)]
  by_cases q : i = n
  · rw [q]
    exact ⟨th, x⟩
  · have kk := k i a (by omega)
    rw [kk.1, kk.2]
    exact e i a (by omega)
theorem ET.copy {h h' : MH} {cs : List Nat} {fs : List Int} {n : Int} (e : ET 2596 h) (w : Wd 2595 cs fs h h') (a : ∀ x ∈ [2598, 2599, 2601, 2602], x ∉ 2595 :: cs) (f : (7 : Int) ∉ fs) (j : J15 h) (k : ∀ j, 0 ≤ j → j < n → ga h' 2597 j = ga h 2596 j) (b : ∀ x, 0 ≤ x → x < ga h 2595 4 → ga h 2598 x < n) : ET 2597 h' := fun i i0 i1 => by
  have e7 : ga h' 2595 7 = ga h 2595 7 := w.fld (by decide) f
  rw [w.arF (a 2598 (by simp)), w.arF (a 2599 (by simp)), w.arF (a 2601 (by simp)), w.arF (a 2602 (by simp))]
  obtain ⟨th, x⟩ := e i i0 (by omega)
  have q := j.ft i i0 (by omega)
  exact ⟨th, x.text k fun w w0 w1 => ⟨(j.ws w (by omega) (by omega)).1, b w (by omega) (by omega)⟩⟩
