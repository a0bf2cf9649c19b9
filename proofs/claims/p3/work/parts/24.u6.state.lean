/-! X19's state while effects are reckoned -/
theorem S19.fl {h h' : MH} {cn : Int} (j : S19 h cn) (o : Only [2514, 2532] h h') (f : ∀ j : Int, j = 2 ∨ j = 7 ∨ j = 21 ∨ j = 24 ∨ j = 26 → ga h' 2514 j = ga h 2514 j) (w : Wk9 h') : S19 h' cn := by
  have e : ∀ d : Nat, d ∉ [2514, 2532] → ga h' d = ga h d := fun d n => funext fun i => o.ga n i
  refine ⟨?_, ?_, ?_, ?_, w⟩
  · unfold Cn9
    rw [f 2 (by omega), e 2517 (by decide), e 2518 (by decide), e 2519 (by decide)]
    exact j.1
  · unfold Tr9
    rw [f 7 (by omega), e 2520 (by decide), e 2521 (by decide), e 2522 (by decide), e 2523 (by decide), e 2524 (by decide)]
    exact j.2.1
  · unfold Ln9
    rw [f 21 (by omega), e 2525 (by decide), e 2526 (by decide)]
    exact j.2.2.1
  · unfold Tx9
    rw [f 24 (by omega), f 26 (by omega), e 2528 (by decide), e 2529 (by decide), e 2530 (by decide), e 2531 (by decide)]
    exact j.2.2.2.1
theorem Wk9.same {h h' : MH} (w : Wk9 h) (f : ∀ j : Int, j = 7 ∨ j = 13 ∨ j = 14 ∨ j = 15 ∨ j = 17 → ga h' 2514 j = ga h 2514 j) : Wk9 h' := by
  unfold Wk9
  rw [f 7 (by omega), f 13 (by omega), f 14 (by omega), f 15 (by omega), f 17 (by omega)]
  exact w
theorem LO.o {h h' : MH} {cs : List Nat} (v : LO h) (o : Only cs h h') (n : 2515 ∉ cs ∧ 2516 ∉ cs) : LO h' := by
  have e : ga h' 2515 = ga h 2515 := funext fun j => o.ga n.1 j
  have f : ga h' 2516 = ga h 2516 := funext fun j => o.ga n.2 j
  unfold LO Nv at v ⊢
  rw [e, f]
  exact v
theorem Nx.o {h h' : MH} {cs : List Nat} {n : Int} {m : Nat} (v : Nx h n m) (o : Only cs h h') (k : 2515 ∉ cs ∧ 2516 ∉ cs) : Nx h' n m := by
  have e : ga h' 2515 = ga h 2515 := funext fun j => o.ga k.1 j
  have f : ga h' 2516 = ga h 2516 := funext fun j => o.ga k.2 j
  unfold Nx Nv at v ⊢
  rw [e, f]
  exact v
theorem CV.o {h h' : MH} {cn : Int} {cs : List Nat} (v : CV h cn) (o : Only cs h h') (k : 2515 ∉ cs ∧ 2516 ∉ cs ∧ 2517 ∉ cs) : CV h' cn := v.only (funext fun j => o.ga k.1 j) (funext fun j => o.ga k.2.1 j) (funext fun j => o.ga k.2.2 j)
def BQ (h : MH) (cn : Int) : Prop := S19 h cn ∧ LO h ∧ CV h cn ∧ ga h 2514 6 ≠ 0 ∧ (ga h 2514 13 ≠ 0 → Nx h 16 28)
def J19 (h : MH) (cn : Int) : Prop := S19 h cn ∧ Q9 h cn
abbrev C19 : List Nat := [2514, 2515, 2516, 2517, 2518, 2519, 2520, 2521, 2522, 2523, 2524, 2525, 2526, 2527, 2528, 2529, 2530, 2531, 2532, 2533]
theorem BQ.j {h : MH} {cn : Int} (b : BQ h cn) : J19 h cn := ⟨b.1, fun _ => ⟨b.2.1, b.2.2.1⟩, fun q => ⟨b.2.2.2.1, b.2.2.2.2 q⟩⟩
theorem BQ.ch {h h' : MH} {cn : Int} {T : List Int} (b : BQ h cn) (c : Ch 140 2515 2516 T h h') (k : ∀ n ∈ T, 15 ≤ n ∧ n ≠ 16) : BQ h' cn := by
  have e6 := c.1.ga (d := 2514) (by decide) 6
  have e13 := c.1.ga (d := 2514) (by decide) 13
  have nn : ∀ m : Int, m < 15 ∨ m = 16 → m ∉ T := fun m hm w => by
    have := k m w
    omega
  have cb := b.1.1.2.1
  refine ⟨b.1.only c.1, b.2.1.keep c (nn 14 (by omega)), b.2.2.1.keep c fun i a b => nn i (by omega), by rw [e6]; exact b.2.2.2.1, fun q => (b.2.2.2.2 (by rw [← e13]; exact q)).keep c (by decide) (nn 16 (by omega))⟩
theorem J19.ch {h h' : MH} {cn : Int} {T : List Int} (b : J19 h cn) (c : Ch 140 2515 2516 T h h') (k : ∀ n ∈ T, 15 ≤ n ∧ n ≠ 16) : J19 h' cn := ⟨b.1.only c.1, b.2.keep c b.1.1.2.1.2 k⟩
theorem BQ.fl {h h' : MH} {cn : Int} (b : BQ h cn) (o : Only [2514, 2532] h h') (f : ∀ j : Int, j = 2 ∨ j = 6 ∨ j = 7 ∨ j = 13 ∨ j = 14 ∨ j = 15 ∨ j = 17 ∨ j = 21 ∨ j = 24 ∨ j = 26 → ga h' 2514 j = ga h 2514 j) : BQ h' cn := ⟨b.1.fl o (fun j q => f j (by omega)) (b.1.2.2.2.2.same fun j q => f j (by omega)), b.2.1.o o (by decide), b.2.2.1.o o (by decide), by rw [f 6 (by omega)]; exact b.2.2.2.1, fun q => (b.2.2.2.2 (by rw [← f 13 (by omega)]; exact q)).o o (by decide)⟩
theorem BQ.one {h h' : MH} {cn F v : Int} (b : BQ h cn) (e : h' = sa h 2514 F v) (f0 : 0 ≤ F) (n : F ≠ 2 ∧ F ≠ 6 ∧ F ≠ 7 ∧ F ≠ 13 ∧ F ≠ 14 ∧ F ≠ 15 ∧ F ≠ 17 ∧ F ≠ 21 ∧ F ≠ 24 ∧ F ≠ 26) : BQ h' cn := b.fl ((Only.wr e).mono (by decide)) fun j q => (ga_wr e f0 (by omega)).trans (if_neg (by omega))
theorem BQ.forget {h h' : MH} {cn : Int} (b : BQ h cn) (o : Only [2514] h h') (f : ∀ j : Int, 0 ≤ j → j ≠ 13 → j ≠ 17 → ga h' 2514 j = ga h 2514 j) (e : ga h' 2514 13 = 0) (e2 : ga h' 2514 17 = -1) : BQ h' cn := by
  have o2 : Only [2514, 2532] h h' := o.mono (by decide)
  refine ⟨b.1.fl o2 (fun j q => f j (by omega) (by omega) (by omega)) ⟨fun q => absurd e q, ?_, by rw [e2]; decide⟩, b.2.1.o o (by decide), b.2.2.1.o o (by decide), by rw [f 6 (by decide) (by decide) (by decide)]; exact b.2.2.2.1, fun q => absurd e q⟩
  rw [f 15 (by decide) (by decide) (by decide)]
  exact b.1.2.2.2.2.2.1
theorem BQ.prep {h h' : MH} {cn : Int} (j : J19 h cn) (o : Only [2515, 2516, 2514] h h') (f : ∀ j : Int, 0 ≤ j → j ≠ 6 → ga h' 2514 j = ga h 2514 j) (n : ga h' 2514 6 ≠ 0) (v : LO h' ∧ CV h' cn) (s : ga h 2514 6 ≠ 0 → h' = h) : BQ h' cn := by
  by_cases q : ga h 2514 6 = 0
  · refine ⟨?_, v.1, v.2, n, fun w => ?_⟩
    · have e : ∀ d : Nat, d ∉ [2515, 2516, 2514] → ga h' d = ga h d := fun d n => funext fun i => o.ga n i
      have j1 := j.1
      unfold S19 Cn9 Tr9 Ln9 Tx9 Wk9 at j1 ⊢
      rw [f 2 (by decide) (by decide), f 7 (by decide) (by decide), f 21 (by decide) (by decide), f 24 (by decide) (by decide), f 26 (by decide) (by decide), f 13 (by decide) (by decide), f 14 (by decide) (by decide), f 15 (by decide) (by decide), f 17 (by decide) (by decide), e 2517 (by decide), e 2518 (by decide), e 2519 (by decide), e 2520 (by decide), e 2521 (by decide), e 2522 (by decide), e 2523 (by decide), e 2524 (by decide), e 2525 (by decide), e 2526 (by decide), e 2528 (by decide), e 2529 (by decide), e 2530 (by decide), e 2531 (by decide)]
      exact j1
    · rw [f 13 (by decide) (by decide)] at w
      exact absurd q (j.2.2 w).1
  · have e := s q
    rw [e]
    exact ⟨j.1, (j.2.1 q).1, (j.2.1 q).2, q, fun w => (j.2.2 w).2⟩
/-- what is told of a fraction -/
theorem told_rng {vu vd part : Int} (hu : 0 ≤ vu) (hd : 0 ≤ vd) : 0 ≤ (if part % 2 = 0 then vu else vd) / TP (part / 2).toNat % 1000000000000000000 ∧ (if part % 2 = 0 then vu else vd) / TP (part / 2).toNat % 1000000000000000000 < 1000000000000000000 := by
  omega
theorem told_low {L d g part : Int} (h : d * g = L ∨ d = 1) (hL : L ∣ KA * KB) (e : part = 1) {vu : Int} : (if part % 2 = 0 then vu else d) / TP (part / 2).toNat % 1000000000000000000 ≠ 0 := by
  subst e
  have e1 : (if (1 : Int) % 2 = 0 then vu else d) = d := if_neg (by decide)
  have e2 : TP ((1 : Int) / 2).toNat = 1 := rfl
  rw [e1, e2, Int.ediv_one]
  refine KK_no ?_
  rcases h with q | q
  · exact Int.dvd_trans ⟨g, q.symm⟩ hL
  · rw [q]
    exact Int.one_dvd _
