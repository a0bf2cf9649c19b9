/-! X19: fields that stand apart -/
theorem J19.fl {h h' : MH} {cn F v : Int} (j : J19 h cn) (e : h' = sa h 2514 F v) (f0 : 0 ≤ F) (n : F ≠ 2 ∧ F ≠ 6 ∧ F ≠ 7 ∧ F ≠ 13 ∧ F ≠ 14 ∧ F ≠ 15 ∧ F ≠ 17 ∧ F ≠ 21 ∧ F ≠ 24 ∧ F ≠ 26) : J19 h' cn := by
  have o := Only.wr e
  have f : ∀ j : Int, 0 ≤ j → j ≠ F → ga h' 2514 j = ga h 2514 j := fun j a b => (ga_wr e f0 a).trans (if_neg b)
  refine ⟨j.1.fl (o.mono (by decide)) (fun i q => f i (by omega) (by omega)) (j.1.2.2.2.2.same fun i q => f i (by omega) (by omega)), ?_⟩
  unfold Q9
  rw [f 6 (by decide) (by omega), f 13 (by decide) (by omega)]
  exact ⟨fun q => ⟨(j.2.1 q).1.o o (by decide), (j.2.1 q).2.o o (by decide)⟩, fun q => ⟨(j.2.2 q).1, (j.2.2 q).2.o o (by decide)⟩⟩
theorem Q9.o {h h' : MH} {cn : Int} {cs : List Nat} (q : Q9 h cn) (o : Only cs h h') (k : 2515 ∉ cs ∧ 2516 ∉ cs ∧ 2517 ∉ cs) (f : ga h' 2514 6 = ga h 2514 6 ∧ ga h' 2514 13 = ga h 2514 13) : Q9 h' cn := by
  unfold Q9
  rw [f.1, f.2]
  exact ⟨fun w => ⟨(q.1 w).1.o o ⟨k.1, k.2.1⟩, (q.1 w).2.o o k⟩, fun w => ⟨(q.2 w).1, (q.2 w).2.o o ⟨k.1, k.2.1⟩⟩⟩
/-- where a line meets 0 -/
theorem meet_b {ln x y : Int} (hl : 0 ≤ ln ∧ ln ≤ 400) (hx : 0 ≤ x ∧ x ≤ 1000000000) (hy : 0 ≤ y ∧ y ≤ 1000000000) (n : 0 < x + y) : 0 ≤ Int.tdiv (ln * x) (x + y) ∧ Int.tdiv (ln * x) (x + y) ≤ 400 := by
  have m := mul_b hl hx
  rw [Int.tdiv_eq_ediv_of_nonneg m.1]
  refine ⟨Int.ediv_nonneg m.1 (by omega), ?_⟩
  have a : ln * x ≤ 400 * (x + y) := by
    have b : ln * x ≤ 400 * x := Int.mul_le_mul_of_nonneg_right hl.2 hx.1
    omega
  exact Int.ediv_le_of_le_mul n a
/-- the trains, lanes, texts after a write -/
theorem S19.tr {h h' : MH} {cn : Int} {cs : List Nat} (j : S19 h cn) (o : Only cs h h') (f : ∀ j : Int, j = 2 ∨ j = 7 ∨ j = 13 ∨ j = 14 ∨ j = 15 ∨ j = 17 ∨ j = 21 ∨ j = 24 ∨ j = 26 → ga h' 2514 j = ga h 2514 j) (a : (2517 ∉ cs ∧ 2518 ∉ cs ∧ 2519 ∉ cs) ∧ (2525 ∉ cs ∧ 2526 ∉ cs) ∧ (2528 ∉ cs ∧ 2529 ∉ cs ∧ 2530 ∉ cs ∧ 2531 ∉ cs)) (t : Tr9 h') : S19 h' cn := by
  have e : ∀ d : Nat, d ∉ cs → ga h' d = ga h d := fun d n => funext fun i => o.ga n i
  refine ⟨?_, t, ?_, ?_, j.2.2.2.2.same fun i q => f i (by omega)⟩
  · unfold Cn9
    rw [f 2 (by omega), e 2517 a.1.1, e 2518 a.1.2.1, e 2519 a.1.2.2]
    exact j.1
  · unfold Ln9
    rw [f 21 (by omega), e 2525 a.2.1.1, e 2526 a.2.1.2]
    exact j.2.2.1
  · unfold Tx9
    rw [f 24 (by omega), f 26 (by omega), e 2528 a.2.2.1, e 2529 a.2.2.2.1, e 2530 a.2.2.2.2.1, e 2531 a.2.2.2.2.2]
    exact j.2.2.2.1
theorem J19.cel {h h' : MH} {cn : Int} {cs : List Nat} (j : J19 h cn) (o : Only cs h h') (n : 2514 ∉ cs) (k : 2515 ∉ cs ∧ 2516 ∉ cs ∧ 2517 ∉ cs) (s : S19 h' cn) : J19 h' cn := ⟨s, j.2.o o k ⟨o.ga n _, o.ga n _⟩⟩
theorem J19.tx24 {h h' : MH} {cn v : Int} (j : J19 h cn) (e : h' = sa h 2514 24 v) (b : 0 ≤ v ∧ v ≤ 100) : J19 h' cn := by
  have o := Only.wr e
  have f : ∀ i : Int, 0 ≤ i → i ≠ 24 → ga h' 2514 i = ga h 2514 i := fun i a c => (ga_wr e (by decide) a).trans (if_neg c)
  have w : ga h' 2514 24 = v := (ga_wr e (by decide) (by decide)).trans (if_pos rfl)
  have g : ∀ d : Nat, d ∉ [2514] → ga h' d = ga h d := fun d n => funext fun i => o.ga n i
  refine ⟨⟨?_, ?_, ?_, ?_, j.1.2.2.2.2.same fun i q => f i (by omega) (by omega)⟩, j.2.o o (by decide) ⟨f 6 (by decide) (by decide), f 13 (by decide) (by decide)⟩⟩
  · unfold Cn9
    rw [f 2 (by decide) (by decide), g 2517 (by decide), g 2518 (by decide), g 2519 (by decide)]
    exact j.1.1
  · unfold Tr9
    rw [f 7 (by decide) (by decide), g 2520 (by decide), g 2521 (by decide), g 2522 (by decide), g 2523 (by decide), g 2524 (by decide)]
    exact j.1.2.1
  · unfold Ln9
    rw [f 21 (by decide) (by decide), g 2525 (by decide), g 2526 (by decide)]
    exact j.1.2.2.1
  · unfold Tx9
    rw [w, f 26 (by decide) (by decide), g 2528 (by decide), g 2529 (by decide), g 2530 (by decide), g 2531 (by decide)]
    exact ⟨b, j.1.2.2.2.1.2⟩
theorem J19.gp {h h' : MH} {cn t v : Int} {c : Nat} (j : J19 h cn) (e : h' = sa h c t v) (hc : c = 2523 ∨ c = 2524) (ht : 0 ≤ t ∧ t < 6) (b : 0 ≤ v ∧ v ≤ 300) : J19 h' cn := by
  have o := Only.wr e
  have m : ∀ d : Nat, d ≠ c → d ∉ [c] := fun d q w => q (List.mem_singleton.mp w)
  have g : ∀ d : Nat, d ≠ c → ga h' d = ga h d := fun d n => funext fun i => o.ga (m d n) i
  refine j.cel o (m _ (by omega)) ⟨m _ (by omega), m _ (by omega), m _ (by omega)⟩ (j.1.tr o (fun i _ => o.ga (m _ (by omega)) i) ⟨⟨m _ (by omega), m _ (by omega), m _ (by omega)⟩, ⟨m _ (by omega), m _ (by omega)⟩, ⟨m _ (by omega), m _ (by omega), m _ (by omega), m _ (by omega)⟩⟩ ?_)
  have q := j.1.2.1
  unfold Tr9 at q ⊢
  rw [g 2514 (by omega), g 2520 (by omega), g 2521 (by omega), g 2522 (by omega)]
  refine ⟨q.1, fun x x0 x1 => ?_⟩
  have y := q.2 x x0 x1
  refine ⟨y.1, ?_, ?_, y.2.2.2⟩
  · by_cases z : c = 2523
    · subst z
      rw [ga_wr e ht.1 x0]
      split
      · exact b
      · exact y.2.1
    · rw [g 2523 (by omega)]
      exact y.2.1
  · by_cases z : c = 2524
    · subst z
      rw [ga_wr e ht.1 x0]
      split
      · exact b
      · exact y.2.2.1
    · rw [g 2524 (by omega)]
      exact y.2.2.1
def Sg9 (h : MH) (k : Int) : Int := if k < ga h 2514 24 then ga h 2527 k else 0
theorem Sg9.only {h h' : MH} {cs : List Nat} (o : Only cs h h') (n : 2514 ∉ cs ∧ 2527 ∉ cs) (k : Int) : Sg9 h' k = Sg9 h k := by
  unfold Sg9
  rw [o.ga n.1, o.ga n.2]
