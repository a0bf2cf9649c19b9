/-! X19: rules as they are read; a second train -/
theorem J19.tx {h h' : MH} {cn i v : Int} {c : Nat} (j : J19 h cn) (e : h' = sa h c i v) (i0 : 0 ≤ i) (hc : ((c = 2528 ∨ c = 2530) ∧ 0 ≤ v ∧ v ≤ 6) ∨ ((c = 2529 ∨ c = 2531) ∧ -9999 ≤ v ∧ v ≤ 9999)) : J19 h' cn := by
  have o := Only.wr e
  have m : ∀ d : Nat, d ≠ c → d ∉ [c] := fun d q w => q (List.mem_singleton.mp w)
  have f : ∀ d : Nat, d ≠ c → ga h' d = ga h d := fun d q => funext fun i => o.ga (m d q) i
  have k : ∀ (d : Nat) (x : Int), 0 ≤ x → ga h' d x = if d = c ∧ x = i then v else ga h d x := fun d x x0 => by
    by_cases q : d = c
    · rw [q, ga_wr e i0 x0]
      by_cases w : x = i
      · rw [if_pos w, if_pos ⟨rfl, w⟩]
      · rw [if_neg w, if_neg fun z => w z.2]
    · rw [if_neg fun z => q z.1]
      exact o.ga (m d q) x
  refine ⟨⟨?_, ?_, ?_, ?_, ?_⟩, j.2.o o ⟨m _ (by omega), m _ (by omega), m _ (by omega)⟩ ⟨o.ga (m _ (by omega)) _, o.ga (m _ (by omega)) _⟩⟩
  · unfold Cn9
    rw [f 2514 (by omega), f 2517 (by omega), f 2518 (by omega), f 2519 (by omega)]
    exact j.1.1
  · unfold Tr9
    rw [f 2514 (by omega), f 2520 (by omega), f 2521 (by omega), f 2522 (by omega), f 2523 (by omega), f 2524 (by omega)]
    exact j.1.2.1
  · unfold Ln9
    rw [f 2514 (by omega), f 2525 (by omega), f 2526 (by omega)]
    exact j.1.2.2.1
  · have t := j.1.2.2.2.1
    unfold Tx9 at t ⊢
    rw [f 2514 (by omega)]
    refine ⟨t.1, t.2.1, fun x x0 x1 => ?_, fun x x0 x1 => ?_⟩
    · have y := t.2.2.1 x x0 x1
      rw [k 2528 x x0, k 2530 x x0]
      refine ⟨?_, ?_⟩
      · split
        · omega
        · exact y.1
      · split
        · omega
        · exact y.2
    · have y := t.2.2.2 x x0 x1
      rw [k 2529 x x0, k 2531 x x0]
      refine ⟨?_, ?_⟩
      · split
        · omega
        · exact y.1
      · split
        · omega
        · exact y.2
  · unfold Wk9
    rw [f 2514 (by omega)]
    exact j.1.2.2.2.2
theorem J19.tx26 {h h' : MH} {cn v : Int} (j : J19 h cn) (e : h' = sa h 2514 26 v) (b : 0 ≤ v ∧ v ≤ 8) : J19 h' cn := by
  have o := Only.wr e
  have f : ∀ i : Int, 0 ≤ i → i ≠ 26 → ga h' 2514 i = ga h 2514 i := fun i a c => (ga_wr e (by decide) a).trans (if_neg c)
  have w : ga h' 2514 26 = v := (ga_wr e (by decide) (by decide)).trans (if_pos rfl)
  have g : ∀ d : Nat, d ∉ [2514] → ga h' d = ga h d := fun d n => funext fun i => o.ga n i
  refine ⟨⟨?_, ?_, ?_, ?_, j.1.2.2.2.2.same fun i q => f i (by omega) (by omega)⟩, j.2.o o (by decide) ⟨f 6 (by decide) (by decide), f 13 (by decide) (by decide)⟩⟩
  · unfold Cn9
    rw [f 2 (by decide) (by decide), g 2517 (by decide), g 2518 (by decide), g 2519 (by decide)]
    exact j.1.1
  · unfold Tr9
    rw [f 7 (by decide) (by decide), g 2520 (by decide), g 2521 (by decide), g 2522 (by decide), g 2523 (by decide), g 2524 (by decide)]
    exact j.1.2.1
  · unfold Ln9
    rw [f 21 (by decide) (by decide), g 2525 (by decide), g 2526 (by decide)]
    exact j.1.2.2.1
  · unfold Tx9
    rw [w, f 24 (by decide) (by decide), g 2528 (by decide), g 2529 (by decide), g 2530 (by decide), g 2531 (by decide)]
    exact ⟨j.1.2.2.2.1.1, b, j.1.2.2.2.1.2.2⟩
theorem BQ.sec {h h' : MH} {cn v : Int} (b : BQ h cn) (e : h' = sa h 2514 17 v) (w : -1 ≤ v ∧ v ≤ 5) : BQ h' cn := by
  have o := Only.wr e
  have f : ∀ i : Int, 0 ≤ i → i ≠ 17 → ga h' 2514 i = ga h 2514 i := fun i a c => (ga_wr e (by decide) a).trans (if_neg c)
  have z : ga h' 2514 17 = v := (ga_wr e (by decide) (by decide)).trans (if_pos rfl)
  refine ⟨b.1.fl (o.mono (by decide)) (fun i q => f i (by omega) (by omega)) ?_, b.2.1.o o (by decide), b.2.2.1.o o (by decide), by rw [f 6 (by decide) (by decide)]; exact b.2.2.2.1, fun q => (b.2.2.2.2 (by rw [← f 13 (by decide) (by decide)]; exact q)).o o (by decide)⟩
  have k := b.1.2.2.2.2
  unfold Wk9 at k ⊢
  rw [z, f 7 (by decide) (by decide), f 13 (by decide) (by decide), f 14 (by decide) (by decide), f 15 (by decide) (by decide)]
  exact ⟨k.1, k.2.1, w⟩
