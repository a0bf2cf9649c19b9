/-! from the walks by hand to the contracts: X12 -/
theorem strz_only {cs : List Nat} {h h' : MH} (s : StrZ zT h) (o : Only cs h h') (e : ∀ c ∈ cs, ∀ j, zRef c j ≠ 0 → (h'.2 c).2.2 j = (h.2 c).2.2 j) (z : ∀ c ∈ cs, (zRow c).2 = 0) : StrZ zT h' := by
  refine ⟨⟨by rw [o.1]; exact s.1.1, fun c c1 c2 => ?_⟩, fun c j hj => ?_, fun c j hj => ?_⟩
  · rw [(o.2.1 c).1, (o.2.1 c).2]
    exact s.1.2 c c1 c2
  · by_cases m : c ∈ cs
    · rw [e c m j hj]
      exact s.2.1 c j hj
    · rw [o.2.2 c m]
      exact s.2.1 c j hj
  · by_cases m : c ∈ cs
    · have q : j < (zRow c).2 := hj
      rw [z c m] at q
      exact absurd q (Nat.not_lt_zero _)
    · rw [o.2.2 c m]
      exact s.2.2 c j hj
theorem frm_only {cs : List Nat} {M : List ZR} {h h' : MH} (o : Only cs h h') (f : ∀ c ∈ cs, ∀ j : Nat, (∀ m ∈ M, ¬ inZ m (c : Int) (j : Int)) → (h'.2 c).2.2 j = (h.2 c).2.2 j) : Frm M h h' := by
  refine ⟨Nat.le_of_eq o.1.symm, fun c _ => o.2.1 c, fun r i n => ?_⟩
  unfold gz
  by_cases p : 0 ≤ r ∧ 0 ≤ i
  · rw [if_pos p, if_pos p]
    by_cases q : i < 1099511627776
    · rw [if_pos q, if_pos q]
      by_cases m : r.toNat ∈ cs
      · refine f _ m _ fun a ha z => n a ha ?_
        rw [Int.toNat_of_nonneg p.1, Int.toNat_of_nonneg p.2] at z
        exact z
      · rw [o.2.2 _ m]
    · rw [if_neg q, if_neg q, (o.2.1 _).1, (o.2.1 _).2, o.1]
  · rw [if_neg p, if_neg p]
theorem inZ1 {c j : Nat} {i : Int} (e : i = (j : Int)) : inZ (c, c, j, j) (c : Int) i := by
  subst e
  unfold inZ
  exact ⟨⟨Int.le_refl _, Or.inr (Int.le_refl _)⟩, Or.inr ⟨Int.le_refl _, Int.le_refl _⟩⟩
theorem inZA {c : Nat} {i : Int} : inZ (c, c, 1, 0) (c : Int) i := by
  unfold inZ
  exact ⟨⟨Int.le_refl _, Or.inr (Int.le_refl _)⟩, Or.inl (Nat.lt_succ_self 0)⟩
theorem ga_nat {h h' : MH} {c j : Nat} (e : ga h' c (j : Int) = ga h c (j : Int)) : (h'.2 c).2.2 j = (h.2 c).2.2 j := by
  unfold ga at e
  rw [Int.toNat_natCast] at e
  exact e
def ct_X12_isLessPart : ZCt := (440, [(1, (0, [(0, 1)])), (1, (0, [(1, 1)])), (1, (0, [(2, 1)])), (1, (0, [(3, 1)]))], [], [((-1), [(1, 1)]), ((-1), [(3, 1)]), (4000000000000, [(1, (-1))]), (4000000000000, [(3, (-1))]), (4000000000000, [(0, 1)]), (4000000000000, [(0, (-1))]), (4000000000000, [(2, 1)]), (4000000000000, [(2, (-1))])], [], [], some (0, 200), [], [(0, [(200, 1)]), (1, [(200, (-1))])], [], [], [], [], 0, 0, [])
set_option maxRecDepth 100000 in
theorem ok_X12_isLessPart : CtOk zG zT ct_X12_isLessPart := by
  refine ⟨by decide +kernel, fun q hq ρ h st hE hF hV _ => ?_⟩
  cases (show some ((KX12_isLessPart, yX12_isLessPart, 12, 4, 1) : MR) = some q from hq)
  have eA : ((kA ct_X12_isLessPart).map fun q => (q.1, zv ρ q.2) : List MV) = [(1, ρ 0), (1, ρ 1), (1, ρ 2), (1, ρ 3)] := by
    show ([(1, 0 + (1 * ρ 0 + 0)), (1, 0 + (1 * ρ 1 + 0)), (1, 0 + (1 * ρ 2 + 0)), (1, 0 + (1 * ρ 3 + 0))] : List MV) = _
    simp only [Int.add_zero, Int.zero_add, Int.one_mul]
  show MCal KX12_isLessPart  yX12_isLessPart _ _ _ h _
  rw [eA]
  have f0 : (0 : Int) ≤ (-1) + (1 * ρ 1 + 0) := hF _ (List.mem_of_getElem? (i := 0) rfl)
  have f1 : (0 : Int) ≤ (-1) + (1 * ρ 3 + 0) := hF _ (List.mem_of_getElem? (i := 1) rfl)
  have f2 : (0 : Int) ≤ 4000000000000 + ((-1) * ρ 1 + 0) := hF _ (List.mem_of_getElem? (i := 2) rfl)
  have f3 : (0 : Int) ≤ 4000000000000 + ((-1) * ρ 3 + 0) := hF _ (List.mem_of_getElem? (i := 3) rfl)
  have f4 : (0 : Int) ≤ 4000000000000 + (1 * ρ 0 + 0) := hF _ (List.mem_of_getElem? (i := 4) rfl)
  have f5 : (0 : Int) ≤ 4000000000000 + ((-1) * ρ 0 + 0) := hF _ (List.mem_of_getElem? (i := 5) rfl)
  have f6 : (0 : Int) ≤ 4000000000000 + (1 * ρ 2 + 0) := hF _ (List.mem_of_getElem? (i := 6) rfl)
  have f7 : (0 : Int) ≤ 4000000000000 + ((-1) * ρ 2 + 0) := hF _ (List.mem_of_getElem? (i := 7) rfl)
  refine MCal.mono (fun o h' w => ?_) (h_X12_isLessPart (a := ρ 0) (b := ρ 1) (c := ρ 2) (d := ρ 3) (h := h) (by omega) (by omega) (by omega) (by omega) (str_of (by decide +kernel) st))
  obtain ⟨o1, o2, v, rfl⟩ := w
  refine ⟨fun v => if v < 200 then ρ v else o.2.2, by exact fun v hv => if_pos (bltN (List.all_eq_true.mp (show (cAv ct_X12_isLessPart).all (fun v => Nat.blt v 200) = true by decide +kernel) v (zmem_of hv))), ⟨o1, Prod.ext o2 rfl⟩, st, Frm.refl _ _, fun _ y => absurd y List.not_mem_nil, ?_, fun _ y => absurd y List.not_mem_nil, fun _ y => absurd y List.not_mem_nil, fun _ y => absurd y List.not_mem_nil⟩
  refine List.forall_mem_cons.mpr ⟨?_, List.forall_mem_cons.mpr ⟨?_, fun _ y => absurd y List.not_mem_nil⟩⟩
  · show (0 : Int) ≤ 0 + (1 * o.2.2 + 0)
    omega
  · show (0 : Int) ≤ 1 + (-1 * o.2.2 + 0)
    omega
def ct_X12_cellOf : ZCt := (431, [(2, (2449, [])), (0, (0, [(0, 1)])), (0, (0, [(1, 1)]))], [((2449, []), (23, []), 50), ((2466, []), (0, [(0, 1)]), 51)], [(0, [(0, 1)]), ((-1), [(0, (-1)), (50, 1)]), (0, [(1, 1)]), (0, [(1, (-1)), (51, 1)])], [zi_X12_f_w, zi_X12_f_h, zi_X12_f_reach, zi_X12_f_slope, zi_X12_f_turn, zi_X12_f_first, zi_X12_f_goal, zi_X12_f_most, zi_X12_f_found, zi_X12_a_belows, zi_X12_a_aboves, zi_X12_a_costs, zi_X12_a_levels, zi_X12_a_mosts, zi_X12_a_cents, zi_X12_a_values, zi_X12_a_marks, zi_X12_a_zones, zi_X12_a_firsts, zi_X12_a_moves, zi_X12_a_movesf, zi_X12_a_headings, zi_X12_f_proved, zi_X12_a_best, zi_X12_a_bestTurns, zi_X12_a_bestMoves, 1], [], some (0, 200), [], [(0, [(200, 1)]), (143, [(200, (-1))])], [], [], [], [], 0, 0, [])
set_option maxRecDepth 100000 in
theorem ok_X12_cellOf : CtOk zG zT ct_X12_cellOf := by
  refine ⟨by decide +kernel, fun q hq ρ h st hE hF hV _ => ?_⟩
  cases (show some ((KX12_cellOf, yX12_cellOf, 12, 2, 0) : MR) = some q from hq)
  have eA : ((kA ct_X12_cellOf).map fun q => (q.1, zv ρ q.2) : List MV) = [(2, ((2449 : Nat) : Int)), (0, ρ 0), (0, ρ 1)] := by
    show ([(2, 2449 + 0), (0, 0 + (1 * ρ 0 + 0)), (0, 0 + (1 * ρ 1 + 0))] : List MV) = _
    simp only [Int.add_zero, Int.zero_add, Int.one_mul]
    rfl
  show MCal KX12_cellOf  yX12_cellOf _ _ _ h _
  rw [eA]
  have f0 : (0 : Int) ≤ 0 + (1 * ρ 0 + 0) := hF _ (List.mem_of_getElem? (i := 0) rfl)
  have f1 : (0 : Int) ≤ (-1) + ((-1) * ρ 0 + (1 * ρ 50 + 0)) := hF _ (List.mem_of_getElem? (i := 1) rfl)
  have f2 : (0 : Int) ≤ 0 + (1 * ρ 1 + 0) := hF _ (List.mem_of_getElem? (i := 2) rfl)
  have f3 : (0 : Int) ≤ 0 + ((-1) * ρ 1 + (1 * ρ 51 + 0)) := hF _ (List.mem_of_getElem? (i := 3) rfl)
  have e0 : gz h (2449 + 0) (23 + 0) = ρ 50 := hE _ (List.mem_of_getElem? (i := 0) rfl)
  have e1 : gz h (2466 + 0) (0 + (1 * ρ 0 + 0)) = ρ 51 := hE _ (List.mem_of_getElem? (i := 1) rfl)
  have e0 : ga h 2449 23 = ρ 50 := (ga_gz (c := 2449) (i := 23) (by decide) (by decide)).symm.trans e0
  have cX12_f_w : 0 ≤ (-12) + (1 * ga h 2449 0 + 0) ∧ 0 ≤ 12 + ((-1) * ga h 2449 0 + 0) := by
    have q := clF (r := 2449) (j := 0) (hV zi_X12_f_w (List.mem_of_getElem? (i := 0) rfl)) (zG_is (by decide +kernel : (match zG.1 zi_X12_f_w with
      | some x => zBeq x ([60001], [((2449, 2449, 0, 0), (2449, []), (0, []), (0, [(60001, 1)]))], [], [((-12), [(60001, 1)]), (12, [(60001, (-1))])])
      | none => false) = true)) (inZ1 (c := 2449) (j := 0) rfl)
    have e : gz h 2449 0 = ga h 2449 0 := ga_gz (c := 2449) (i := 0) (by decide) (by decide)
    have z0 : (0 : Int) ≤ (-12) + (1 * gz h 2449 0 + 0) := q _ (List.mem_cons_self)
    have z1 : (0 : Int) ≤ 12 + ((-1) * gz h 2449 0 + 0) := q _ (List.mem_cons_of_mem _ List.mem_cons_self)
    rw [e] at z0 z1
    exact ⟨z0, z1⟩
  have cX12_f_h : 0 ≤ (-12) + (1 * ga h 2449 1 + 0) ∧ 0 ≤ 12 + ((-1) * ga h 2449 1 + 0) := by
    have q := clF (r := 2449) (j := 1) (hV zi_X12_f_h (List.mem_of_getElem? (i := 1) rfl)) (zG_is (by decide +kernel : (match zG.1 zi_X12_f_h with
      | some x => zBeq x ([60001], [((2449, 2449, 1, 1), (2449, []), (1, []), (0, [(60001, 1)]))], [], [((-12), [(60001, 1)]), (12, [(60001, (-1))])])
      | none => false) = true)) (inZ1 (c := 2449) (j := 1) rfl)
    have e : gz h 2449 1 = ga h 2449 1 := ga_gz (c := 2449) (i := 1) (by decide) (by decide)
    have z0 : (0 : Int) ≤ (-12) + (1 * gz h 2449 1 + 0) := q _ (List.mem_cons_self)
    have z1 : (0 : Int) ≤ 12 + ((-1) * gz h 2449 1 + 0) := q _ (List.mem_cons_of_mem _ List.mem_cons_self)
    rw [e] at z0 z1
    exact ⟨z0, z1⟩
  have cX12_f_found : 0 ≤ 0 + (1 * ga h 2449 23 + 0) ∧ 0 ≤ 6 + ((-1) * ga h 2449 23 + 0) := by
    have q := clF (r := 2449) (j := 23) (hV zi_X12_f_found (List.mem_of_getElem? (i := 8) rfl)) (zG_is (by decide +kernel : (match zG.1 zi_X12_f_found with
      | some x => zBeq x ([60001], [((2449, 2449, 23, 23), (2449, []), (23, []), (0, [(60001, 1)]))], [], [(0, [(60001, 1)]), (6, [(60001, (-1))])])
      | none => false) = true)) (inZ1 (c := 2449) (j := 23) rfl)
    have e : gz h 2449 23 = ga h 2449 23 := ga_gz (c := 2449) (i := 23) (by decide) (by decide)
    have z0 : (0 : Int) ≤ 0 + (1 * gz h 2449 23 + 0) := q _ (List.mem_cons_self)
    have z1 : (0 : Int) ≤ 6 + ((-1) * gz h 2449 23 + 0) := q _ (List.mem_cons_of_mem _ List.mem_cons_self)
    rw [e] at z0 z1
    exact ⟨z0, z1⟩
  have cX12_a_moves : ∀ i : Int, 0 ≤ i → i ≤ 5 → 0 ≤ 0 + (1 * ga h 2466 i + 0) ∧ 0 ≤ 5000 + ((-1) * ga h 2466 i + 0) := fun i i0 i1 => by
    have q := clA (r := 2466) (n := 5) (hV zi_X12_a_moves (List.mem_of_getElem? (i := 19) rfl)) (zG_is (by decide +kernel : (match zG.1 zi_X12_a_moves with
      | some x => zBeq x ([60001, 60002], [((2466, 2466, 1, 0), (2466, []), (0, [(60001, 1)]), (0, [(60002, 1)]))], [(0, [(60001, 1)]), (5, [(60001, (-1))])], [(0, [(60002, 1)]), (5000, [(60002, (-1))])])
      | none => false) = true)) i0 i1 (inZA (c := 2466))
    have e : gz h 2466 i = ga h 2466 i := ga_gz (c := 2466) i0 (by omega)
    have z0 : (0 : Int) ≤ 0 + (1 * gz h 2466 i + 0) := q _ (List.mem_cons_self)
    have z1 : (0 : Int) ≤ 5000 + ((-1) * gz h 2466 i + 0) := q _ (List.mem_cons_of_mem _ List.mem_cons_self)
    rw [e] at z0 z1
    exact ⟨z0, z1⟩
  have cX12_a_headings : ∀ i : Int, 0 ≤ i → i ≤ 29999 → 0 ≤ 0 + (1 * ga h 2467 i + 0) ∧ 0 ≤ 15 + ((-1) * ga h 2467 i + 0) := fun i i0 i1 => by
    have q := clA (r := 2467) (n := 29999) (hV zi_X12_a_headings (List.mem_of_getElem? (i := 21) rfl)) (zG_is (by decide +kernel : (match zG.1 zi_X12_a_headings with
      | some x => zBeq x ([60001, 60002], [((2467, 2467, 1, 0), (2467, []), (0, [(60001, 1)]), (0, [(60002, 1)]))], [(0, [(60001, 1)]), (29999, [(60001, (-1))])], [(0, [(60002, 1)]), (15, [(60002, (-1))])])
      | none => false) = true)) i0 i1 (inZA (c := 2467))
    have e : gz h 2467 i = ga h 2467 i := ga_gz (c := 2467) i0 (by omega)
    have z0 : (0 : Int) ≤ 0 + (1 * gz h 2467 i + 0) := q _ (List.mem_cons_self)
    have z1 : (0 : Int) ≤ 15 + ((-1) * gz h 2467 i + 0) := q _ (List.mem_cons_of_mem _ List.mem_cons_self)
    rw [e] at z0 z1
    exact ⟨z0, z1⟩
  rw [show (0 : Int) + (1 * ρ 0 + 0) = ρ 0 by omega] at e1
  have e1 : ga h 2466 (ρ 0) = ρ 51 := (ga_gz (c := 2466) (i := ρ 0) (by omega) (by omega)).symm.trans e1
  have pp : P12 h := hV 1 (List.mem_of_getElem? (i := 26) rfl)
  have m := cX12_a_moves (ρ 0) (by omega) (by omega)
  refine MCal.mono (fun o h' w => ?_) (h_X12_cellOf (w := ρ 0) (k := ρ 1) (h := h) (by omega) pp (fun j j0 j1 => by have := cX12_a_headings j j0 (by omega); omega) (by omega) (by omega) (by omega) (str_of (by decide +kernel) st))
  obtain ⟨o1, o2, v, rfl⟩ := w
  refine ⟨fun v => if v < 200 then ρ v else o.2.2, by exact fun v hv => if_pos (bltN (List.all_eq_true.mp (show (cAv ct_X12_cellOf).all (fun v => Nat.blt v 200) = true by decide +kernel) v (zmem_of hv))), ⟨o1, Prod.ext o2 rfl⟩, st, Frm.refl _ _, fun _ y => absurd y List.not_mem_nil, ?_, fun _ y => absurd y List.not_mem_nil, fun _ y => absurd y List.not_mem_nil, fun _ y => absurd y List.not_mem_nil⟩
  refine List.forall_mem_cons.mpr ⟨?_, List.forall_mem_cons.mpr ⟨?_, fun _ y => absurd y List.not_mem_nil⟩⟩
  · show (0 : Int) ≤ 0 + (1 * o.2.2 + 0)
    omega
  · show (0 : Int) ≤ 143 + (-1 * o.2.2 + 0)
    omega
theorem mvf_is : zG.1 zi_X12_a_movesf = some ([60001, 60002, 60003], [((2466, 2466, 1, 0), (2466, []), (0, [(60001, 1)]), (0, [(60002, 1)])), ((2449, 2449, 23, 23), (2449, []), (23, []), (0, [(60003, 1)]))], [(0, [(60001, 1)]), ((-1), [(60001, (-1)), (60003, 1)])], [((-1), [(60002, 1)]), (5000, [(60002, (-1))])]) := (zG_is (by decide +kernel : (match zG.1 zi_X12_a_movesf with
      | some x => zBeq x ([60001, 60002, 60003], [((2466, 2466, 1, 0), (2466, []), (0, [(60001, 1)]), (0, [(60002, 1)])), ((2449, 2449, 23, 23), (2449, []), (23, []), (0, [(60003, 1)]))], [(0, [(60001, 1)]), ((-1), [(60001, (-1)), (60003, 1)])], [((-1), [(60002, 1)]), (5000, [(60002, (-1))])])
      | none => false) = true))
theorem mvf_iff {h : MH} (hf : ga h 2449 23 ≤ 6) : zGl zG zi_X12_a_movesf h ↔ ∀ i : Int, 0 ≤ i → i ≤ ga h 2449 23 - 1 → 1 ≤ ga h 2466 i ∧ ga h 2466 i ≤ 5000 := by
  have e : gz h 2449 23 = ga h 2449 23 := ga_gz (c := 2449) (i := 23) (by decide) (by decide)
  unfold zGl
  rw [mvf_is]
  constructor
  · intro q i i0 i1
    have i2 : i < 1099511627776 := by omega
    have e2 : gz h 2466 i = ga h 2466 i := ga_gz (c := 2466) i0 i2
    have w := q (fun v => bif Nat.beq v 60003 then ga h 2449 23 else bif Nat.beq v 60002 then ga h 2466 i else i) (fun v => bif Nat.beq v 60003 then ga h 2449 23 else bif Nat.beq v 60002 then ga h 2466 i else i) (fun _ _ => rfl) (List.forall_mem_cons.mpr ⟨⟨?_, ?_⟩, List.forall_mem_cons.mpr ⟨⟨?_, ?_⟩, fun _ y => absurd y List.not_mem_nil⟩⟩) (List.forall_mem_cons.mpr ⟨?_, List.forall_mem_cons.mpr ⟨?_, fun _ y => absurd y List.not_mem_nil⟩⟩)
    · have z1 : (0 : Int) ≤ -1 + (1 * ga h 2466 i + 0) := w _ List.mem_cons_self
      have z2 : (0 : Int) ≤ 5000 + (-1 * ga h 2466 i + 0) := w _ (List.mem_cons_of_mem _ List.mem_cons_self)
      omega
    · exact inZA (c := 2466)
    · show gz h (2466 + 0) (0 + (1 * i + 0)) = 0 + (1 * ga h 2466 i + 0)
      rw [show (0 : Int) + (1 * i + 0) = i by omega]
      have e2 : gz h (2466 + 0) i = ga h 2466 i := e2
      omega
    · exact inZ1 (c := 2449) (j := 23) rfl
    · show gz h (2449 + 0) (23 + 0) = 0 + (1 * ga h 2449 23 + 0)
      have e : gz h (2449 + 0) (23 + 0) = ga h 2449 23 := e
      omega
    · show (0 : Int) ≤ 0 + (1 * i + 0)
      omega
    · show (0 : Int) ≤ -1 + (-1 * i + (1 * ga h 2449 23 + 0))
      omega
  · intro f ρ β _ hE hG c hc
    have w1 := hE _ List.mem_cons_self
    have w2 := hE _ (List.mem_cons_of_mem _ List.mem_cons_self)
    have g1 : (0 : Int) ≤ 0 + (1 * β 60001 + 0) := hG _ List.mem_cons_self
    have g2 : (0 : Int) ≤ -1 + (-1 * β 60001 + (1 * β 60003 + 0)) := hG _ (List.mem_cons_of_mem _ List.mem_cons_self)
    have w2 : gz h (2449 + 0) (23 + 0) = 0 + (1 * β 60003 + 0) := w2.2
    have w1 : gz h (2466 + 0) (0 + (1 * β 60001 + 0)) = 0 + (1 * β 60002 + 0) := w1.2
    have e : gz h (2449 + 0) (23 + 0) = ga h 2449 23 := e
    have e4 : β 60003 = ga h 2449 23 := by omega
    rw [show (0 : Int) + (1 * β 60001 + 0) = β 60001 by omega] at w1
    have e2 : gz h (2466 + 0) (β 60001) = ga h 2466 (β 60001) := ga_gz (c := 2466) (by omega) (by omega)
    have a := f (β 60001) (by omega) (by omega)
    simp only [List.mem_cons, List.not_mem_nil, or_false] at hc
    rcases hc with rfl | rfl
    · show (0 : Int) ≤ -1 + (1 * β 60002 + 0)
      omega
    · show (0 : Int) ≤ 5000 + (-1 * β 60002 + 0)
      omega
def ct_X12_search : ZCt := (427, [(2, (2449, [])), (0, (0, [(0, 1)])), (0, (0, [(1, 1)])), (0, (0, [(2, 1)]))], [((2449, []), (23, []), 50), ((2455, []), (0, [(0, 1)]), 51)], [(0, [(0, 1)]), (143, [(0, (-1))]), (0, [(1, 1)]), (143, [(1, (-1))]), (100, [(2, 1)]), (8, [(2, (-1))]), (0, [(50, 1)]), (5, [(50, (-1))]), (0, [(51, (-1))]), (0, [(51, 1)])], [zi_X12_f_w, zi_X12_f_h, zi_X12_f_reach, zi_X12_f_slope, zi_X12_f_turn, zi_X12_f_first, zi_X12_f_goal, zi_X12_f_most, zi_X12_f_found, zi_X12_a_belows, zi_X12_a_aboves, zi_X12_a_costs, zi_X12_a_levels, zi_X12_a_mosts, zi_X12_a_cents, zi_X12_a_values, zi_X12_a_marks, zi_X12_a_zones, zi_X12_a_firsts, zi_X12_a_moves, zi_X12_a_movesf, zi_X12_a_headings, zi_X12_f_proved, zi_X12_a_best, zi_X12_a_bestTurns, zi_X12_a_bestMoves, 1], [(2449, 2449, 20, 20), (2449, 2449, 21, 21), (2449, 2449, 22, 22), (2449, 2449, 23, 23), (2449, 2449, 27, 27), (2449, 2449, 28, 28), (2449, 2449, 29, 29), (2460, 2460, 1, 0), (2461, 2461, 1, 0), (2462, 2462, 1, 0), (2463, 2463, 1, 0), (2465, 2465, 1, 0), (2466, 2466, 1, 0), (2467, 2467, 1, 0)], some (0, 200), [((2449, []), (20, []), 201), ((2449, []), (21, []), 202), ((2449, []), (22, []), 203), ((2449, []), (23, []), 204), ((2449, []), (27, []), 205), ((2449, []), (28, []), 206)], [(0, [(0, (-1)), (201, 1)]), (0, [(0, 1), (201, (-1))]), (0, [(1, (-1)), (202, 1)]), (0, [(1, 1), (202, (-1))]), (0, [(2, (-1)), (203, 1)]), (0, [(2, 1), (203, (-1))]), (0, [(50, (-1)), (204, 1)]), (1, [(50, 1), (204, (-1))]), ((-1), [(205, 1)]), (1, [(205, (-1))]), (0, [(206, 1)]), (1, [(206, (-1))])], [], [zi_X12_f_first, zi_X12_f_goal, zi_X12_f_most, zi_X12_f_found, zi_X12_a_firsts, zi_X12_a_moves, zi_X12_a_movesf, zi_X12_a_headings, zi_X12_f_proved, zi_X12_a_best, zi_X12_a_bestTurns, zi_X12_a_bestMoves, 1], [], [], 0, 0, [])
set_option maxRecDepth 100000 in
theorem ok_X12_search : CtOk zG zT ct_X12_search := by
  refine ⟨by decide +kernel, fun q hq ρ h st hE hF hV _ => ?_⟩
  cases (show some ((KX12_search, yX12_search, 12, 3, 0) : MR) = some q from hq)
  have eA : ((kA ct_X12_search).map fun q => (q.1, zv ρ q.2) : List MV) = [(2, ((2449 : Nat) : Int)), (0, ρ 0), (0, ρ 1), (0, ρ 2)] := by
    show ([(2, 2449 + 0), (0, 0 + (1 * ρ 0 + 0)), (0, 0 + (1 * ρ 1 + 0)), (0, 0 + (1 * ρ 2 + 0))] : List MV) = _
    simp only [Int.add_zero, Int.zero_add, Int.one_mul]
    rfl
  show MCal KX12_search  yX12_search _ _ _ h _
  rw [eA]
  have f0 : (0 : Int) ≤ 0 + (1 * ρ 0 + 0) := hF _ (List.mem_of_getElem? (i := 0) rfl)
  have f1 : (0 : Int) ≤ 143 + ((-1) * ρ 0 + 0) := hF _ (List.mem_of_getElem? (i := 1) rfl)
  have f2 : (0 : Int) ≤ 0 + (1 * ρ 1 + 0) := hF _ (List.mem_of_getElem? (i := 2) rfl)
  have f3 : (0 : Int) ≤ 143 + ((-1) * ρ 1 + 0) := hF _ (List.mem_of_getElem? (i := 3) rfl)
  have f4 : (0 : Int) ≤ 100 + (1 * ρ 2 + 0) := hF _ (List.mem_of_getElem? (i := 4) rfl)
  have f5 : (0 : Int) ≤ 8 + ((-1) * ρ 2 + 0) := hF _ (List.mem_of_getElem? (i := 5) rfl)
  have f6 : (0 : Int) ≤ 0 + (1 * ρ 50 + 0) := hF _ (List.mem_of_getElem? (i := 6) rfl)
  have f7 : (0 : Int) ≤ 5 + ((-1) * ρ 50 + 0) := hF _ (List.mem_of_getElem? (i := 7) rfl)
  have f8 : (0 : Int) ≤ 0 + ((-1) * ρ 51 + 0) := hF _ (List.mem_of_getElem? (i := 8) rfl)
  have f9 : (0 : Int) ≤ 0 + (1 * ρ 51 + 0) := hF _ (List.mem_of_getElem? (i := 9) rfl)
  have e0 : gz h (2449 + 0) (23 + 0) = ρ 50 := hE _ (List.mem_of_getElem? (i := 0) rfl)
  have e1 : gz h (2455 + 0) (0 + (1 * ρ 0 + 0)) = ρ 51 := hE _ (List.mem_of_getElem? (i := 1) rfl)
  have e0 : ga h 2449 23 = ρ 50 := (ga_gz (c := 2449) (i := 23) (by decide) (by decide)).symm.trans e0
  have cX12_f_w : 0 ≤ (-12) + (1 * ga h 2449 0 + 0) ∧ 0 ≤ 12 + ((-1) * ga h 2449 0 + 0) := by
    have q := clF (r := 2449) (j := 0) (hV zi_X12_f_w (List.mem_of_getElem? (i := 0) rfl)) (zG_is (by decide +kernel : (match zG.1 zi_X12_f_w with
      | some x => zBeq x ([60001], [((2449, 2449, 0, 0), (2449, []), (0, []), (0, [(60001, 1)]))], [], [((-12), [(60001, 1)]), (12, [(60001, (-1))])])
      | none => false) = true)) (inZ1 (c := 2449) (j := 0) rfl)
    have e : gz h 2449 0 = ga h 2449 0 := ga_gz (c := 2449) (i := 0) (by decide) (by decide)
    have z0 : (0 : Int) ≤ (-12) + (1 * gz h 2449 0 + 0) := q _ (List.mem_cons_self)
    have z1 : (0 : Int) ≤ 12 + ((-1) * gz h 2449 0 + 0) := q _ (List.mem_cons_of_mem _ List.mem_cons_self)
    rw [e] at z0 z1
    exact ⟨z0, z1⟩
  have cX12_f_h : 0 ≤ (-12) + (1 * ga h 2449 1 + 0) ∧ 0 ≤ 12 + ((-1) * ga h 2449 1 + 0) := by
    have q := clF (r := 2449) (j := 1) (hV zi_X12_f_h (List.mem_of_getElem? (i := 1) rfl)) (zG_is (by decide +kernel : (match zG.1 zi_X12_f_h with
      | some x => zBeq x ([60001], [((2449, 2449, 1, 1), (2449, []), (1, []), (0, [(60001, 1)]))], [], [((-12), [(60001, 1)]), (12, [(60001, (-1))])])
      | none => false) = true)) (inZ1 (c := 2449) (j := 1) rfl)
    have e : gz h 2449 1 = ga h 2449 1 := ga_gz (c := 2449) (i := 1) (by decide) (by decide)
    have z0 : (0 : Int) ≤ (-12) + (1 * gz h 2449 1 + 0) := q _ (List.mem_cons_self)
    have z1 : (0 : Int) ≤ 12 + ((-1) * gz h 2449 1 + 0) := q _ (List.mem_cons_of_mem _ List.mem_cons_self)
    rw [e] at z0 z1
    exact ⟨z0, z1⟩
  have cX12_f_reach : 0 ≤ (-1) + (1 * ga h 2449 12 + 0) ∧ 0 ≤ 2 + ((-1) * ga h 2449 12 + 0) := by
    have q := clF (r := 2449) (j := 12) (hV zi_X12_f_reach (List.mem_of_getElem? (i := 2) rfl)) (zG_is (by decide +kernel : (match zG.1 zi_X12_f_reach with
      | some x => zBeq x ([60001], [((2449, 2449, 12, 12), (2449, []), (12, []), (0, [(60001, 1)]))], [], [((-1), [(60001, 1)]), (2, [(60001, (-1))])])
      | none => false) = true)) (inZ1 (c := 2449) (j := 12) rfl)
    have e : gz h 2449 12 = ga h 2449 12 := ga_gz (c := 2449) (i := 12) (by decide) (by decide)
    have z0 : (0 : Int) ≤ (-1) + (1 * gz h 2449 12 + 0) := q _ (List.mem_cons_self)
    have z1 : (0 : Int) ≤ 2 + ((-1) * gz h 2449 12 + 0) := q _ (List.mem_cons_of_mem _ List.mem_cons_self)
    rw [e] at z0 z1
    exact ⟨z0, z1⟩
  have cX12_f_slope : 0 ≤ 0 + (1 * ga h 2449 13 + 0) ∧ 0 ≤ 9999 + ((-1) * ga h 2449 13 + 0) := by
    have q := clF (r := 2449) (j := 13) (hV zi_X12_f_slope (List.mem_of_getElem? (i := 3) rfl)) (zG_is (by decide +kernel : (match zG.1 zi_X12_f_slope with
      | some x => zBeq x ([60001], [((2449, 2449, 13, 13), (2449, []), (13, []), (0, [(60001, 1)]))], [], [(0, [(60001, 1)]), (9999, [(60001, (-1))])])
      | none => false) = true)) (inZ1 (c := 2449) (j := 13) rfl)
    have e : gz h 2449 13 = ga h 2449 13 := ga_gz (c := 2449) (i := 13) (by decide) (by decide)
    have z0 : (0 : Int) ≤ 0 + (1 * gz h 2449 13 + 0) := q _ (List.mem_cons_self)
    have z1 : (0 : Int) ≤ 9999 + ((-1) * gz h 2449 13 + 0) := q _ (List.mem_cons_of_mem _ List.mem_cons_self)
    rw [e] at z0 z1
    exact ⟨z0, z1⟩
  have cX12_f_turn : 0 ≤ 0 + (1 * ga h 2449 14 + 0) ∧ 0 ≤ 8 + ((-1) * ga h 2449 14 + 0) := by
    have q := clF (r := 2449) (j := 14) (hV zi_X12_f_turn (List.mem_of_getElem? (i := 4) rfl)) (zG_is (by decide +kernel : (match zG.1 zi_X12_f_turn with
      | some x => zBeq x ([60001], [((2449, 2449, 14, 14), (2449, []), (14, []), (0, [(60001, 1)]))], [], [(0, [(60001, 1)]), (8, [(60001, (-1))])])
      | none => false) = true)) (inZ1 (c := 2449) (j := 14) rfl)
    have e : gz h 2449 14 = ga h 2449 14 := ga_gz (c := 2449) (i := 14) (by decide) (by decide)
    have z0 : (0 : Int) ≤ 0 + (1 * gz h 2449 14 + 0) := q _ (List.mem_cons_self)
    have z1 : (0 : Int) ≤ 8 + ((-1) * gz h 2449 14 + 0) := q _ (List.mem_cons_of_mem _ List.mem_cons_self)
    rw [e] at z0 z1
    exact ⟨z0, z1⟩
  have cX12_f_first : 0 ≤ 0 + (1 * ga h 2449 20 + 0) ∧ 0 ≤ 143 + ((-1) * ga h 2449 20 + 0) := by
    have q := clF (r := 2449) (j := 20) (hV zi_X12_f_first (List.mem_of_getElem? (i := 5) rfl)) (zG_is (by decide +kernel : (match zG.1 zi_X12_f_first with
      | some x => zBeq x ([60001], [((2449, 2449, 20, 20), (2449, []), (20, []), (0, [(60001, 1)]))], [], [(0, [(60001, 1)]), (143, [(60001, (-1))])])
      | none => false) = true)) (inZ1 (c := 2449) (j := 20) rfl)
    have e : gz h 2449 20 = ga h 2449 20 := ga_gz (c := 2449) (i := 20) (by decide) (by decide)
    have z0 : (0 : Int) ≤ 0 + (1 * gz h 2449 20 + 0) := q _ (List.mem_cons_self)
    have z1 : (0 : Int) ≤ 143 + ((-1) * gz h 2449 20 + 0) := q _ (List.mem_cons_of_mem _ List.mem_cons_self)
    rw [e] at z0 z1
    exact ⟨z0, z1⟩
  have cX12_f_goal : 0 ≤ 0 + (1 * ga h 2449 21 + 0) ∧ 0 ≤ 143 + ((-1) * ga h 2449 21 + 0) := by
    have q := clF (r := 2449) (j := 21) (hV zi_X12_f_goal (List.mem_of_getElem? (i := 6) rfl)) (zG_is (by decide +kernel : (match zG.1 zi_X12_f_goal with
      | some x => zBeq x ([60001], [((2449, 2449, 21, 21), (2449, []), (21, []), (0, [(60001, 1)]))], [], [(0, [(60001, 1)]), (143, [(60001, (-1))])])
      | none => false) = true)) (inZ1 (c := 2449) (j := 21) rfl)
    have e : gz h 2449 21 = ga h 2449 21 := ga_gz (c := 2449) (i := 21) (by decide) (by decide)
    have z0 : (0 : Int) ≤ 0 + (1 * gz h 2449 21 + 0) := q _ (List.mem_cons_self)
    have z1 : (0 : Int) ≤ 143 + ((-1) * gz h 2449 21 + 0) := q _ (List.mem_cons_of_mem _ List.mem_cons_self)
    rw [e] at z0 z1
    exact ⟨z0, z1⟩
  have cX12_f_most : 0 ≤ 100 + (1 * ga h 2449 22 + 0) ∧ 0 ≤ 8 + ((-1) * ga h 2449 22 + 0) := by
    have q := clF (r := 2449) (j := 22) (hV zi_X12_f_most (List.mem_of_getElem? (i := 7) rfl)) (zG_is (by decide +kernel : (match zG.1 zi_X12_f_most with
      | some x => zBeq x ([60001], [((2449, 2449, 22, 22), (2449, []), (22, []), (0, [(60001, 1)]))], [], [(100, [(60001, 1)]), (8, [(60001, (-1))])])
      | none => false) = true)) (inZ1 (c := 2449) (j := 22) rfl)
    have e : gz h 2449 22 = ga h 2449 22 := ga_gz (c := 2449) (i := 22) (by decide) (by decide)
    have z0 : (0 : Int) ≤ 100 + (1 * gz h 2449 22 + 0) := q _ (List.mem_cons_self)
    have z1 : (0 : Int) ≤ 8 + ((-1) * gz h 2449 22 + 0) := q _ (List.mem_cons_of_mem _ List.mem_cons_self)
    rw [e] at z0 z1
    exact ⟨z0, z1⟩
  have cX12_f_found : 0 ≤ 0 + (1 * ga h 2449 23 + 0) ∧ 0 ≤ 6 + ((-1) * ga h 2449 23 + 0) := by
    have q := clF (r := 2449) (j := 23) (hV zi_X12_f_found (List.mem_of_getElem? (i := 8) rfl)) (zG_is (by decide +kernel : (match zG.1 zi_X12_f_found with
      | some x => zBeq x ([60001], [((2449, 2449, 23, 23), (2449, []), (23, []), (0, [(60001, 1)]))], [], [(0, [(60001, 1)]), (6, [(60001, (-1))])])
      | none => false) = true)) (inZ1 (c := 2449) (j := 23) rfl)
    have e : gz h 2449 23 = ga h 2449 23 := ga_gz (c := 2449) (i := 23) (by decide) (by decide)
    have z0 : (0 : Int) ≤ 0 + (1 * gz h 2449 23 + 0) := q _ (List.mem_cons_self)
    have z1 : (0 : Int) ≤ 6 + ((-1) * gz h 2449 23 + 0) := q _ (List.mem_cons_of_mem _ List.mem_cons_self)
    rw [e] at z0 z1
    exact ⟨z0, z1⟩
  have cX12_a_belows : ∀ i : Int, 0 ≤ i → i ≤ 3 → 0 ≤ (-1) + (1 * ga h 2459 i + 0) ∧ 0 ≤ 6 + ((-1) * ga h 2459 i + 0) := fun i i0 i1 => by
    have q := clA (r := 2459) (n := 3) (hV zi_X12_a_belows (List.mem_of_getElem? (i := 9) rfl)) (zG_is (by decide +kernel : (match zG.1 zi_X12_a_belows with
      | some x => zBeq x ([60001, 60002], [((2459, 2459, 1, 0), (2459, []), (0, [(60001, 1)]), (0, [(60002, 1)]))], [(0, [(60001, 1)]), (3, [(60001, (-1))])], [((-1), [(60002, 1)]), (6, [(60002, (-1))])])
      | none => false) = true)) i0 i1 (inZA (c := 2459))
    have e : gz h 2459 i = ga h 2459 i := ga_gz (c := 2459) i0 (by omega)
    have z0 : (0 : Int) ≤ (-1) + (1 * gz h 2459 i + 0) := q _ (List.mem_cons_self)
    have z1 : (0 : Int) ≤ 6 + ((-1) * gz h 2459 i + 0) := q _ (List.mem_cons_of_mem _ List.mem_cons_self)
    rw [e] at z0 z1
    exact ⟨z0, z1⟩
  have cX12_a_aboves : ∀ i : Int, 0 ≤ i → i ≤ 3 → 0 ≤ 0 + (1 * ga h 2458 i + 0) ∧ 0 ≤ 20 + ((-1) * ga h 2458 i + 0) := fun i i0 i1 => by
    have q := clA (r := 2458) (n := 3) (hV zi_X12_a_aboves (List.mem_of_getElem? (i := 10) rfl)) (zG_is (by decide +kernel : (match zG.1 zi_X12_a_aboves with
      | some x => zBeq x ([60001, 60002], [((2458, 2458, 1, 0), (2458, []), (0, [(60001, 1)]), (0, [(60002, 1)]))], [(0, [(60001, 1)]), (3, [(60001, (-1))])], [(0, [(60002, 1)]), (20, [(60002, (-1))])])
      | none => false) = true)) i0 i1 (inZA (c := 2458))
    have e : gz h 2458 i = ga h 2458 i := ga_gz (c := 2458) i0 (by omega)
    have z0 : (0 : Int) ≤ 0 + (1 * gz h 2458 i + 0) := q _ (List.mem_cons_self)
    have z1 : (0 : Int) ≤ 20 + ((-1) * gz h 2458 i + 0) := q _ (List.mem_cons_of_mem _ List.mem_cons_self)
    rw [e] at z0 z1
    exact ⟨z0, z1⟩
  have cX12_a_costs : ∀ i : Int, 0 ≤ i → i ≤ 143 → 0 ≤ 0 + (1 * ga h 2450 i + 0) ∧ 0 ≤ 999 + ((-1) * ga h 2450 i + 0) := fun i i0 i1 => by
    have q := clA (r := 2450) (n := 143) (hV zi_X12_a_costs (List.mem_of_getElem? (i := 11) rfl)) (zG_is (by decide +kernel : (match zG.1 zi_X12_a_costs with
      | some x => zBeq x ([60001, 60002], [((2450, 2450, 1, 0), (2450, []), (0, [(60001, 1)]), (0, [(60002, 1)]))], [(0, [(60001, 1)]), (143, [(60001, (-1))])], [(0, [(60002, 1)]), (999, [(60002, (-1))])])
      | none => false) = true)) i0 i1 (inZA (c := 2450))
    have e : gz h 2450 i = ga h 2450 i := ga_gz (c := 2450) i0 (by omega)
    have z0 : (0 : Int) ≤ 0 + (1 * gz h 2450 i + 0) := q _ (List.mem_cons_self)
    have z1 : (0 : Int) ≤ 999 + ((-1) * gz h 2450 i + 0) := q _ (List.mem_cons_of_mem _ List.mem_cons_self)
    rw [e] at z0 z1
    exact ⟨z0, z1⟩
  have cX12_a_levels : ∀ i : Int, 0 ≤ i → i ≤ 143 → 0 ≤ 0 + (1 * ga h 2451 i + 0) ∧ 0 ≤ 9999 + ((-1) * ga h 2451 i + 0) := fun i i0 i1 => by
    have q := clA (r := 2451) (n := 143) (hV zi_X12_a_levels (List.mem_of_getElem? (i := 12) rfl)) (zG_is (by decide +kernel : (match zG.1 zi_X12_a_levels with
      | some x => zBeq x ([60001, 60002], [((2451, 2451, 1, 0), (2451, []), (0, [(60001, 1)]), (0, [(60002, 1)]))], [(0, [(60001, 1)]), (143, [(60001, (-1))])], [(0, [(60002, 1)]), (9999, [(60002, (-1))])])
      | none => false) = true)) i0 i1 (inZA (c := 2451))
    have e : gz h 2451 i = ga h 2451 i := ga_gz (c := 2451) i0 (by omega)
    have z0 : (0 : Int) ≤ 0 + (1 * gz h 2451 i + 0) := q _ (List.mem_cons_self)
    have z1 : (0 : Int) ≤ 9999 + ((-1) * gz h 2451 i + 0) := q _ (List.mem_cons_of_mem _ List.mem_cons_self)
    rw [e] at z0 z1
    exact ⟨z0, z1⟩
  have cX12_a_mosts : ∀ i : Int, 0 ≤ i → i ≤ 143 → 0 ≤ 0 + (1 * ga h 2453 i + 0) ∧ 0 ≤ 3 + ((-1) * ga h 2453 i + 0) := fun i i0 i1 => by
    have q := clA (r := 2453) (n := 143) (hV zi_X12_a_mosts (List.mem_of_getElem? (i := 13) rfl)) (zG_is (by decide +kernel : (match zG.1 zi_X12_a_mosts with
      | some x => zBeq x ([60001, 60002], [((2453, 2453, 1, 0), (2453, []), (0, [(60001, 1)]), (0, [(60002, 1)]))], [(0, [(60001, 1)]), (143, [(60001, (-1))])], [(0, [(60002, 1)]), (3, [(60002, (-1))])])
      | none => false) = true)) i0 i1 (inZA (c := 2453))
    have e : gz h 2453 i = ga h 2453 i := ga_gz (c := 2453) i0 (by omega)
    have z0 : (0 : Int) ≤ 0 + (1 * gz h 2453 i + 0) := q _ (List.mem_cons_self)
    have z1 : (0 : Int) ≤ 3 + ((-1) * gz h 2453 i + 0) := q _ (List.mem_cons_of_mem _ List.mem_cons_self)
    rw [e] at z0 z1
    exact ⟨z0, z1⟩
  have cX12_a_cents : ∀ i : Int, 0 ≤ i → i ≤ 143 → 0 ≤ 0 + (1 * ga h 2454 i + 0) ∧ 0 ≤ 9999 + ((-1) * ga h 2454 i + 0) := fun i i0 i1 => by
    have q := clA (r := 2454) (n := 143) (hV zi_X12_a_cents (List.mem_of_getElem? (i := 14) rfl)) (zG_is (by decide +kernel : (match zG.1 zi_X12_a_cents with
      | some x => zBeq x ([60001, 60002], [((2454, 2454, 1, 0), (2454, []), (0, [(60001, 1)]), (0, [(60002, 1)]))], [(0, [(60001, 1)]), (143, [(60001, (-1))])], [(0, [(60002, 1)]), (9999, [(60002, (-1))])])
      | none => false) = true)) i0 i1 (inZA (c := 2454))
    have e : gz h 2454 i = ga h 2454 i := ga_gz (c := 2454) i0 (by omega)
    have z0 : (0 : Int) ≤ 0 + (1 * gz h 2454 i + 0) := q _ (List.mem_cons_self)
    have z1 : (0 : Int) ≤ 9999 + ((-1) * gz h 2454 i + 0) := q _ (List.mem_cons_of_mem _ List.mem_cons_self)
    rw [e] at z0 z1
    exact ⟨z0, z1⟩
  have cX12_a_values : ∀ i : Int, 0 ≤ i → i ≤ 575 → 0 ≤ 0 + (1 * ga h 2456 i + 0) ∧ 0 ≤ 999 + ((-1) * ga h 2456 i + 0) := fun i i0 i1 => by
    have q := clA (r := 2456) (n := 575) (hV zi_X12_a_values (List.mem_of_getElem? (i := 15) rfl)) (zG_is (by decide +kernel : (match zG.1 zi_X12_a_values with
      | some x => zBeq x ([60001, 60002], [((2456, 2456, 1, 0), (2456, []), (0, [(60001, 1)]), (0, [(60002, 1)]))], [(0, [(60001, 1)]), (575, [(60001, (-1))])], [(0, [(60002, 1)]), (999, [(60002, (-1))])])
      | none => false) = true)) i0 i1 (inZA (c := 2456))
    have e : gz h 2456 i = ga h 2456 i := ga_gz (c := 2456) i0 (by omega)
    have z0 : (0 : Int) ≤ 0 + (1 * gz h 2456 i + 0) := q _ (List.mem_cons_self)
    have z1 : (0 : Int) ≤ 999 + ((-1) * gz h 2456 i + 0) := q _ (List.mem_cons_of_mem _ List.mem_cons_self)
    rw [e] at z0 z1
    exact ⟨z0, z1⟩
  have cX12_a_marks : ∀ i : Int, 0 ≤ i → i ≤ 1151 → 0 ≤ 0 + (1 * ga h 2457 i + 0) ∧ 0 ≤ 3 + ((-1) * ga h 2457 i + 0) := fun i i0 i1 => by
    have q := clA (r := 2457) (n := 1151) (hV zi_X12_a_marks (List.mem_of_getElem? (i := 16) rfl)) (zG_is (by decide +kernel : (match zG.1 zi_X12_a_marks with
      | some x => zBeq x ([60001, 60002], [((2457, 2457, 1, 0), (2457, []), (0, [(60001, 1)]), (0, [(60002, 1)]))], [(0, [(60001, 1)]), (1151, [(60001, (-1))])], [(0, [(60002, 1)]), (3, [(60002, (-1))])])
      | none => false) = true)) i0 i1 (inZA (c := 2457))
    have e : gz h 2457 i = ga h 2457 i := ga_gz (c := 2457) i0 (by omega)
    have z0 : (0 : Int) ≤ 0 + (1 * gz h 2457 i + 0) := q _ (List.mem_cons_self)
    have z1 : (0 : Int) ≤ 3 + ((-1) * gz h 2457 i + 0) := q _ (List.mem_cons_of_mem _ List.mem_cons_self)
    rw [e] at z0 z1
    exact ⟨z0, z1⟩
  have cX12_a_firsts : ∀ i : Int, 0 ≤ i → i ≤ 5 → 0 ≤ 0 + (1 * ga h 2465 i + 0) ∧ 0 ≤ 143 + ((-1) * ga h 2465 i + 0) := fun i i0 i1 => by
    have q := clA (r := 2465) (n := 5) (hV zi_X12_a_firsts (List.mem_of_getElem? (i := 18) rfl)) (zG_is (by decide +kernel : (match zG.1 zi_X12_a_firsts with
      | some x => zBeq x ([60001, 60002], [((2465, 2465, 1, 0), (2465, []), (0, [(60001, 1)]), (0, [(60002, 1)]))], [(0, [(60001, 1)]), (5, [(60001, (-1))])], [(0, [(60002, 1)]), (143, [(60002, (-1))])])
      | none => false) = true)) i0 i1 (inZA (c := 2465))
    have e : gz h 2465 i = ga h 2465 i := ga_gz (c := 2465) i0 (by omega)
    have z0 : (0 : Int) ≤ 0 + (1 * gz h 2465 i + 0) := q _ (List.mem_cons_self)
    have z1 : (0 : Int) ≤ 143 + ((-1) * gz h 2465 i + 0) := q _ (List.mem_cons_of_mem _ List.mem_cons_self)
    rw [e] at z0 z1
    exact ⟨z0, z1⟩
  have cX12_a_moves : ∀ i : Int, 0 ≤ i → i ≤ 5 → 0 ≤ 0 + (1 * ga h 2466 i + 0) ∧ 0 ≤ 5000 + ((-1) * ga h 2466 i + 0) := fun i i0 i1 => by
    have q := clA (r := 2466) (n := 5) (hV zi_X12_a_moves (List.mem_of_getElem? (i := 19) rfl)) (zG_is (by decide +kernel : (match zG.1 zi_X12_a_moves with
      | some x => zBeq x ([60001, 60002], [((2466, 2466, 1, 0), (2466, []), (0, [(60001, 1)]), (0, [(60002, 1)]))], [(0, [(60001, 1)]), (5, [(60001, (-1))])], [(0, [(60002, 1)]), (5000, [(60002, (-1))])])
      | none => false) = true)) i0 i1 (inZA (c := 2466))
    have e : gz h 2466 i = ga h 2466 i := ga_gz (c := 2466) i0 (by omega)
    have z0 : (0 : Int) ≤ 0 + (1 * gz h 2466 i + 0) := q _ (List.mem_cons_self)
    have z1 : (0 : Int) ≤ 5000 + ((-1) * gz h 2466 i + 0) := q _ (List.mem_cons_of_mem _ List.mem_cons_self)
    rw [e] at z0 z1
    exact ⟨z0, z1⟩
  have cX12_a_headings : ∀ i : Int, 0 ≤ i → i ≤ 29999 → 0 ≤ 0 + (1 * ga h 2467 i + 0) ∧ 0 ≤ 15 + ((-1) * ga h 2467 i + 0) := fun i i0 i1 => by
    have q := clA (r := 2467) (n := 29999) (hV zi_X12_a_headings (List.mem_of_getElem? (i := 21) rfl)) (zG_is (by decide +kernel : (match zG.1 zi_X12_a_headings with
      | some x => zBeq x ([60001, 60002], [((2467, 2467, 1, 0), (2467, []), (0, [(60001, 1)]), (0, [(60002, 1)]))], [(0, [(60001, 1)]), (29999, [(60001, (-1))])], [(0, [(60002, 1)]), (15, [(60002, (-1))])])
      | none => false) = true)) i0 i1 (inZA (c := 2467))
    have e : gz h 2467 i = ga h 2467 i := ga_gz (c := 2467) i0 (by omega)
    have z0 : (0 : Int) ≤ 0 + (1 * gz h 2467 i + 0) := q _ (List.mem_cons_self)
    have z1 : (0 : Int) ≤ 15 + ((-1) * gz h 2467 i + 0) := q _ (List.mem_cons_of_mem _ List.mem_cons_self)
    rw [e] at z0 z1
    exact ⟨z0, z1⟩
  have cX12_a_best : ∀ i : Int, 0 ≤ i → i ≤ 88127 → 0 ≤ 0 + (1 * ga h 2460 i + 0) ∧ 0 ≤ 17592186044416 + ((-1) * ga h 2460 i + 0) := fun i i0 i1 => by
    have q := clA (r := 2460) (n := 88127) (hV zi_X12_a_best (List.mem_of_getElem? (i := 23) rfl)) (zG_is (by decide +kernel : (match zG.1 zi_X12_a_best with
      | some x => zBeq x ([60001, 60002], [((2460, 2460, 1, 0), (2460, []), (0, [(60001, 1)]), (0, [(60002, 1)]))], [(0, [(60001, 1)]), (88127, [(60001, (-1))])], [(0, [(60002, 1)]), (17592186044416, [(60002, (-1))])])
      | none => false) = true)) i0 i1 (inZA (c := 2460))
    have e : gz h 2460 i = ga h 2460 i := ga_gz (c := 2460) i0 (by omega)
    have z0 : (0 : Int) ≤ 0 + (1 * gz h 2460 i + 0) := q _ (List.mem_cons_self)
    have z1 : (0 : Int) ≤ 17592186044416 + ((-1) * gz h 2460 i + 0) := q _ (List.mem_cons_of_mem _ List.mem_cons_self)
    rw [e] at z0 z1
    exact ⟨z0, z1⟩
  have cX12_a_bestTurns : ∀ i : Int, 0 ≤ i → i ≤ 88127 → 0 ≤ 0 + (1 * ga h 2461 i + 0) ∧ 0 ≤ 88128 + ((-1) * ga h 2461 i + 0) := fun i i0 i1 => by
    have q := clA (r := 2461) (n := 88127) (hV zi_X12_a_bestTurns (List.mem_of_getElem? (i := 24) rfl)) (zG_is (by decide +kernel : (match zG.1 zi_X12_a_bestTurns with
      | some x => zBeq x ([60001, 60002], [((2461, 2461, 1, 0), (2461, []), (0, [(60001, 1)]), (0, [(60002, 1)]))], [(0, [(60001, 1)]), (88127, [(60001, (-1))])], [(0, [(60002, 1)]), (88128, [(60002, (-1))])])
      | none => false) = true)) i0 i1 (inZA (c := 2461))
    have e : gz h 2461 i = ga h 2461 i := ga_gz (c := 2461) i0 (by omega)
    have z0 : (0 : Int) ≤ 0 + (1 * gz h 2461 i + 0) := q _ (List.mem_cons_self)
    have z1 : (0 : Int) ≤ 88128 + ((-1) * gz h 2461 i + 0) := q _ (List.mem_cons_of_mem _ List.mem_cons_self)
    rw [e] at z0 z1
    exact ⟨z0, z1⟩
  have cX12_a_bestMoves : ∀ i : Int, 0 ≤ i → i ≤ 88127 → 0 ≤ 0 + (1 * ga h 2462 i + 0) ∧ 0 ≤ 88128 + ((-1) * ga h 2462 i + 0) := fun i i0 i1 => by
    have q := clA (r := 2462) (n := 88127) (hV zi_X12_a_bestMoves (List.mem_of_getElem? (i := 25) rfl)) (zG_is (by decide +kernel : (match zG.1 zi_X12_a_bestMoves with
      | some x => zBeq x ([60001, 60002], [((2462, 2462, 1, 0), (2462, []), (0, [(60001, 1)]), (0, [(60002, 1)]))], [(0, [(60001, 1)]), (88127, [(60001, (-1))])], [(0, [(60002, 1)]), (88128, [(60002, (-1))])])
      | none => false) = true)) i0 i1 (inZA (c := 2462))
    have e : gz h 2462 i = ga h 2462 i := ga_gz (c := 2462) i0 (by omega)
    have z0 : (0 : Int) ≤ 0 + (1 * gz h 2462 i + 0) := q _ (List.mem_cons_self)
    have z1 : (0 : Int) ≤ 88128 + ((-1) * gz h 2462 i + 0) := q _ (List.mem_cons_of_mem _ List.mem_cons_self)
    rw [e] at z0 z1
    exact ⟨z0, z1⟩
  have mf := (mvf_iff (by omega)).mp (hV zi_X12_a_movesf (List.mem_of_getElem? (i := 20) rfl))
  rw [show (0 : Int) + (1 * ρ 0 + 0) = ρ 0 by omega] at e1
  have e1 : ga h 2455 (ρ 0) = ρ 51 := (ga_gz (c := 2455) (i := ρ 0) (by omega) (by omega)).symm.trans e1
  have pp : P12 h := hV 1 (List.mem_of_getElem? (i := 26) rfl)
  have br : ga h 2455 (ρ 0) = 0 := by omega
  refine MCal.mono (fun o h' w => ?_) (h_X12_search (p0 := ρ 0) (p1 := ρ 1) (p2 := ρ 2) (h := h) ⟨by omega, by omega, by omega, by omega, by omega, by omega, by omega, fun j j0 j1 => by have a := cX12_a_costs j j0 (by omega); have b := cX12_a_levels j j0 (by omega); have c := cX12_a_mosts j j0 (by omega); have d := cX12_a_cents j j0 (by omega); omega, fun j j0 j1 => by have a := cX12_a_values j j0 (by omega); omega, fun j j0 j1 => by have a := cX12_a_marks j j0 (by omega); omega, fun j j0 j1 => by have a := cX12_a_aboves j j0 (by omega); have b := cX12_a_belows j j0 (by omega); omega⟩ (fun j j0 j1 => ?_) (by omega) (by omega) (by omega) (by omega) br (str_of (by decide +kernel) st))
  rotate_left
  · have a := cX12_a_best j j0 (by omega)
    have b := cX12_a_bestTurns j j0 (by omega)
    have c := cX12_a_bestMoves j j0 (by omega)
    omega
  obtain ⟨o1, o2, oo, fl, ⟨p0, p1, p2, p3, p4, p5⟩, bd, w⟩ := w
  have fn : ∀ j : Nat, (j : Int) ∉ ([20, 21, 22, 23, 27, 28, 29] : List Int) → (h'.2 2449).2.2 j = (h.2 2449).2.2 j := fun j n => ga_nat (fl j (Int.natCast_nonneg _) n)
  have F : Frm (kMd ct_X12_search) h h' := by
    refine frm_only oo fun c hc j n => ?_
    simp only [List.mem_cons, List.not_mem_nil, or_false] at hc
    rcases hc with rfl | rfl | rfl | rfl | rfl | rfl | rfl | rfl
    · refine fn j fun m => ?_
      simp only [List.mem_cons, List.not_mem_nil, or_false] at m
      rcases m with m | m | m | m | m | m | m

      · exact n _ (List.mem_of_getElem? (i := 0) rfl) (inZ1 (c := 2449) (j := 20) m)
      · exact n _ (List.mem_of_getElem? (i := 1) rfl) (inZ1 (c := 2449) (j := 21) m)
      · exact n _ (List.mem_of_getElem? (i := 2) rfl) (inZ1 (c := 2449) (j := 22) m)
      · exact n _ (List.mem_of_getElem? (i := 3) rfl) (inZ1 (c := 2449) (j := 23) m)
      · exact n _ (List.mem_of_getElem? (i := 4) rfl) (inZ1 (c := 2449) (j := 27) m)
      · exact n _ (List.mem_of_getElem? (i := 5) rfl) (inZ1 (c := 2449) (j := 28) m)
      · exact n _ (List.mem_of_getElem? (i := 6) rfl) (inZ1 (c := 2449) (j := 29) m)
    · exact absurd inZA (n _ (List.mem_of_getElem? (i := 7) rfl))
    · exact absurd inZA (n _ (List.mem_of_getElem? (i := 8) rfl))
    · exact absurd inZA (n _ (List.mem_of_getElem? (i := 9) rfl))
    · exact absurd inZA (n _ (List.mem_of_getElem? (i := 10) rfl))
    · exact absurd inZA (n _ (List.mem_of_getElem? (i := 11) rfl))
    · exact absurd inZA (n _ (List.mem_of_getElem? (i := 12) rfl))
    · exact absurd inZA (n _ (List.mem_of_getElem? (i := 13) rfl))
  have S : StrZ zT h' := by
    refine strz_only st oo (fun c hc j n => ?_) (fun c hc => ?_)
    · simp only [List.mem_cons, List.not_mem_nil, or_false] at hc
      rcases hc with rfl | rfl | rfl | rfl | rfl | rfl | rfl | rfl
      · refine fn j fun m => ?_
        simp only [List.mem_cons, List.not_mem_nil, or_false] at m
        have m : j = 20 ∨ j = 21 ∨ j = 22 ∨ j = 23 ∨ j = 27 ∨ j = 28 ∨ j = 29 := by omega
        rcases m with rfl | rfl | rfl | rfl | rfl | rfl | rfl <;> exact n rfl
      · exact absurd rfl n
      · exact absurd rfl n
      · exact absurd rfl n
      · exact absurd rfl n
      · exact absurd rfl n
      · exact absurd rfl n
      · exact absurd rfl n
    · simp only [List.mem_cons, List.not_mem_nil, or_false] at hc
      rcases hc with rfl | rfl | rfl | rfl | rfl | rfl | rfl | rfl <;> rfl
  have fb : 0 ≤ ga h 2449 23 ∧ ga h 2449 23 ≤ 5 := by omega
  have dX12_f_first : 0 ≤ 0 + (1 * ga h' 2449 20 + 0) ∧ 0 ≤ 143 + ((-1) * ga h' 2449 20 + 0) := by omega
  have tX12_f_first : zGl zG zi_X12_f_first h' := by
    refine tlF (r := 2449) (j := 20) (zG_is (by decide +kernel : (match zG.1 zi_X12_f_first with
      | some x => zBeq x ([60001], [((2449, 2449, 20, 20), (2449, []), (20, []), (0, [(60001, 1)]))], [], [(0, [(60001, 1)]), (143, [(60001, (-1))])])
      | none => false) = true)) fun β eb => ?_
    have e : gz h' 2449 20 = ga h' 2449 20 := ga_gz (c := 2449) (i := 20) (by decide) (by decide)
    have eb : β 60001 = ga h' 2449 20 := eb.trans e
    rw [← eb] at dX12_f_first
    exact List.forall_mem_cons.mpr ⟨dX12_f_first.1, List.forall_mem_cons.mpr ⟨dX12_f_first.2, fun _ y => absurd y List.not_mem_nil⟩⟩
  have dX12_f_goal : 0 ≤ 0 + (1 * ga h' 2449 21 + 0) ∧ 0 ≤ 143 + ((-1) * ga h' 2449 21 + 0) := by omega
  have tX12_f_goal : zGl zG zi_X12_f_goal h' := by
    refine tlF (r := 2449) (j := 21) (zG_is (by decide +kernel : (match zG.1 zi_X12_f_goal with
      | some x => zBeq x ([60001], [((2449, 2449, 21, 21), (2449, []), (21, []), (0, [(60001, 1)]))], [], [(0, [(60001, 1)]), (143, [(60001, (-1))])])
      | none => false) = true)) fun β eb => ?_
    have e : gz h' 2449 21 = ga h' 2449 21 := ga_gz (c := 2449) (i := 21) (by decide) (by decide)
    have eb : β 60001 = ga h' 2449 21 := eb.trans e
    rw [← eb] at dX12_f_goal
    exact List.forall_mem_cons.mpr ⟨dX12_f_goal.1, List.forall_mem_cons.mpr ⟨dX12_f_goal.2, fun _ y => absurd y List.not_mem_nil⟩⟩
  have dX12_f_most : 0 ≤ 100 + (1 * ga h' 2449 22 + 0) ∧ 0 ≤ 8 + ((-1) * ga h' 2449 22 + 0) := by omega
  have tX12_f_most : zGl zG zi_X12_f_most h' := by
    refine tlF (r := 2449) (j := 22) (zG_is (by decide +kernel : (match zG.1 zi_X12_f_most with
      | some x => zBeq x ([60001], [((2449, 2449, 22, 22), (2449, []), (22, []), (0, [(60001, 1)]))], [], [(100, [(60001, 1)]), (8, [(60001, (-1))])])
      | none => false) = true)) fun β eb => ?_
    have e : gz h' 2449 22 = ga h' 2449 22 := ga_gz (c := 2449) (i := 22) (by decide) (by decide)
    have eb : β 60001 = ga h' 2449 22 := eb.trans e
    rw [← eb] at dX12_f_most
    exact List.forall_mem_cons.mpr ⟨dX12_f_most.1, List.forall_mem_cons.mpr ⟨dX12_f_most.2, fun _ y => absurd y List.not_mem_nil⟩⟩
  have dX12_f_found : 0 ≤ 0 + (1 * ga h' 2449 23 + 0) ∧ 0 ≤ 6 + ((-1) * ga h' 2449 23 + 0) := by omega
  have tX12_f_found : zGl zG zi_X12_f_found h' := by
    refine tlF (r := 2449) (j := 23) (zG_is (by decide +kernel : (match zG.1 zi_X12_f_found with
      | some x => zBeq x ([60001], [((2449, 2449, 23, 23), (2449, []), (23, []), (0, [(60001, 1)]))], [], [(0, [(60001, 1)]), (6, [(60001, (-1))])])
      | none => false) = true)) fun β eb => ?_
    have e : gz h' 2449 23 = ga h' 2449 23 := ga_gz (c := 2449) (i := 23) (by decide) (by decide)
    have eb : β 60001 = ga h' 2449 23 := eb.trans e
    rw [← eb] at dX12_f_found
    exact List.forall_mem_cons.mpr ⟨dX12_f_found.1, List.forall_mem_cons.mpr ⟨dX12_f_found.2, fun _ y => absurd y List.not_mem_nil⟩⟩
  have dX12_f_proved : 0 ≤ 0 + (1 * ga h' 2449 28 + 0) ∧ 0 ≤ 1 + ((-1) * ga h' 2449 28 + 0) := by omega
  have tX12_f_proved : zGl zG zi_X12_f_proved h' := by
    refine tlF (r := 2449) (j := 28) (zG_is (by decide +kernel : (match zG.1 zi_X12_f_proved with
      | some x => zBeq x ([60001], [((2449, 2449, 28, 28), (2449, []), (28, []), (0, [(60001, 1)]))], [], [(0, [(60001, 1)]), (1, [(60001, (-1))])])
      | none => false) = true)) fun β eb => ?_
    have e : gz h' 2449 28 = ga h' 2449 28 := ga_gz (c := 2449) (i := 28) (by decide) (by decide)
    have eb : β 60001 = ga h' 2449 28 := eb.trans e
    rw [← eb] at dX12_f_proved
    exact List.forall_mem_cons.mpr ⟨dX12_f_proved.1, List.forall_mem_cons.mpr ⟨dX12_f_proved.2, fun _ y => absurd y List.not_mem_nil⟩⟩
  have dX12_a_best : ∀ i : Int, 0 ≤ i → i ≤ 88127 → 0 ≤ 0 + (1 * ga h' 2460 i + 0) ∧ 0 ≤ 17592186044416 + ((-1) * ga h' 2460 i + 0) := fun i i0 i1 => by have := bd i i0 (by omega); omega
  have tX12_a_best : zGl zG zi_X12_a_best h' := by
    refine tlA (r := 2460) (n := 88127) (zG_is (by decide +kernel : (match zG.1 zi_X12_a_best with
      | some x => zBeq x ([60001, 60002], [((2460, 2460, 1, 0), (2460, []), (0, [(60001, 1)]), (0, [(60002, 1)]))], [(0, [(60001, 1)]), (88127, [(60001, (-1))])], [(0, [(60002, 1)]), (17592186044416, [(60002, (-1))])])
      | none => false) = true)) fun β b0 b1 eb => ?_
    have e : gz h' 2460 (β 60001) = ga h' 2460 (β 60001) := ga_gz (c := 2460) b0 (by omega)
    have eb : β 60002 = ga h' 2460 (β 60001) := eb.trans e
    have dX12_a_best := dX12_a_best (β 60001) b0 b1
    rw [← eb] at dX12_a_best
    exact List.forall_mem_cons.mpr ⟨dX12_a_best.1, List.forall_mem_cons.mpr ⟨dX12_a_best.2, fun _ y => absurd y List.not_mem_nil⟩⟩
  have dX12_a_bestTurns : ∀ i : Int, 0 ≤ i → i ≤ 88127 → 0 ≤ 0 + (1 * ga h' 2461 i + 0) ∧ 0 ≤ 88128 + ((-1) * ga h' 2461 i + 0) := fun i i0 i1 => by have := bd i i0 (by omega); omega
  have tX12_a_bestTurns : zGl zG zi_X12_a_bestTurns h' := by
    refine tlA (r := 2461) (n := 88127) (zG_is (by decide +kernel : (match zG.1 zi_X12_a_bestTurns with
      | some x => zBeq x ([60001, 60002], [((2461, 2461, 1, 0), (2461, []), (0, [(60001, 1)]), (0, [(60002, 1)]))], [(0, [(60001, 1)]), (88127, [(60001, (-1))])], [(0, [(60002, 1)]), (88128, [(60002, (-1))])])
      | none => false) = true)) fun β b0 b1 eb => ?_
    have e : gz h' 2461 (β 60001) = ga h' 2461 (β 60001) := ga_gz (c := 2461) b0 (by omega)
    have eb : β 60002 = ga h' 2461 (β 60001) := eb.trans e
    have dX12_a_bestTurns := dX12_a_bestTurns (β 60001) b0 b1
    rw [← eb] at dX12_a_bestTurns
    exact List.forall_mem_cons.mpr ⟨dX12_a_bestTurns.1, List.forall_mem_cons.mpr ⟨dX12_a_bestTurns.2, fun _ y => absurd y List.not_mem_nil⟩⟩
  have dX12_a_bestMoves : ∀ i : Int, 0 ≤ i → i ≤ 88127 → 0 ≤ 0 + (1 * ga h' 2462 i + 0) ∧ 0 ≤ 88128 + ((-1) * ga h' 2462 i + 0) := fun i i0 i1 => by have := bd i i0 (by omega); omega
  have tX12_a_bestMoves : zGl zG zi_X12_a_bestMoves h' := by
    refine tlA (r := 2462) (n := 88127) (zG_is (by decide +kernel : (match zG.1 zi_X12_a_bestMoves with
      | some x => zBeq x ([60001, 60002], [((2462, 2462, 1, 0), (2462, []), (0, [(60001, 1)]), (0, [(60002, 1)]))], [(0, [(60001, 1)]), (88127, [(60001, (-1))])], [(0, [(60002, 1)]), (88128, [(60002, (-1))])])
      | none => false) = true)) fun β b0 b1 eb => ?_
    have e : gz h' 2462 (β 60001) = ga h' 2462 (β 60001) := ga_gz (c := 2462) b0 (by omega)
    have eb : β 60002 = ga h' 2462 (β 60001) := eb.trans e
    have dX12_a_bestMoves := dX12_a_bestMoves (β 60001) b0 b1
    rw [← eb] at dX12_a_bestMoves
    exact List.forall_mem_cons.mpr ⟨dX12_a_bestMoves.1, List.forall_mem_cons.mpr ⟨dX12_a_bestMoves.2, fun _ y => absurd y List.not_mem_nil⟩⟩
  have dX12_a_firsts : ∀ i : Int, 0 ≤ i → i ≤ 5 → 0 ≤ 0 + (1 * ga h' 2465 i + 0) ∧ 0 ≤ 143 + ((-1) * ga h' 2465 i + 0) := fun i i0 i1 => by
    have a := cX12_a_firsts i i0 i1
    rcases w with ⟨_, w, _⟩ | ⟨_, _, _, w, _, _, w2, _⟩
    · rw [w]; exact a
    · by_cases q : i = ga h 2449 23
      · rw [q]; omega
      · rw [(w i i0 q).1]; exact a
  have tX12_a_firsts : zGl zG zi_X12_a_firsts h' := by
    refine tlA (r := 2465) (n := 5) (zG_is (by decide +kernel : (match zG.1 zi_X12_a_firsts with
      | some x => zBeq x ([60001, 60002], [((2465, 2465, 1, 0), (2465, []), (0, [(60001, 1)]), (0, [(60002, 1)]))], [(0, [(60001, 1)]), (5, [(60001, (-1))])], [(0, [(60002, 1)]), (143, [(60002, (-1))])])
      | none => false) = true)) fun β b0 b1 eb => ?_
    have e : gz h' 2465 (β 60001) = ga h' 2465 (β 60001) := ga_gz (c := 2465) b0 (by omega)
    have eb : β 60002 = ga h' 2465 (β 60001) := eb.trans e
    have dX12_a_firsts := dX12_a_firsts (β 60001) b0 b1
    rw [← eb] at dX12_a_firsts
    exact List.forall_mem_cons.mpr ⟨dX12_a_firsts.1, List.forall_mem_cons.mpr ⟨dX12_a_firsts.2, fun _ y => absurd y List.not_mem_nil⟩⟩
  have dX12_a_moves : ∀ i : Int, 0 ≤ i → i ≤ 5 → 0 ≤ 0 + (1 * ga h' 2466 i + 0) ∧ 0 ≤ 5000 + ((-1) * ga h' 2466 i + 0) := fun i i0 i1 => by
    have a := cX12_a_moves i i0 i1
    rcases w with ⟨_, _, w, _⟩ | ⟨_, w3, w2, w, _⟩
    · rw [w]; exact a
    · by_cases q : i = ga h 2449 23
      · rw [q]; omega
      · rw [(w i i0 q).2]; exact a
  have tX12_a_moves : zGl zG zi_X12_a_moves h' := by
    refine tlA (r := 2466) (n := 5) (zG_is (by decide +kernel : (match zG.1 zi_X12_a_moves with
      | some x => zBeq x ([60001, 60002], [((2466, 2466, 1, 0), (2466, []), (0, [(60001, 1)]), (0, [(60002, 1)]))], [(0, [(60001, 1)]), (5, [(60001, (-1))])], [(0, [(60002, 1)]), (5000, [(60002, (-1))])])
      | none => false) = true)) fun β b0 b1 eb => ?_
    have e : gz h' 2466 (β 60001) = ga h' 2466 (β 60001) := ga_gz (c := 2466) b0 (by omega)
    have eb : β 60002 = ga h' 2466 (β 60001) := eb.trans e
    have dX12_a_moves := dX12_a_moves (β 60001) b0 b1
    rw [← eb] at dX12_a_moves
    exact List.forall_mem_cons.mpr ⟨dX12_a_moves.1, List.forall_mem_cons.mpr ⟨dX12_a_moves.2, fun _ y => absurd y List.not_mem_nil⟩⟩
  have dX12_a_headings : ∀ i : Int, 0 ≤ i → i ≤ 29999 → 0 ≤ 0 + (1 * ga h' 2467 i + 0) ∧ 0 ≤ 15 + ((-1) * ga h' 2467 i + 0) := fun i i0 i1 => by
    have a := cX12_a_headings i i0 i1
    rcases w with ⟨_, _, _, w⟩ | ⟨_, _, _, _, w, w2, _⟩
    · rw [w]; exact a
    · by_cases q : i < 5000 * ga h 2449 23 ∨ 5000 * ga h 2449 23 + o.2.2 ≤ i
      · rw [w i i0 q]; exact a
      · have b := w2 (i - 5000 * ga h 2449 23) (by omega) (by omega)
        rw [show 5000 * ga h 2449 23 + (i - 5000 * ga h 2449 23) = i by omega] at b
        omega
  have tX12_a_headings : zGl zG zi_X12_a_headings h' := by
    refine tlA (r := 2467) (n := 29999) (zG_is (by decide +kernel : (match zG.1 zi_X12_a_headings with
      | some x => zBeq x ([60001, 60002], [((2467, 2467, 1, 0), (2467, []), (0, [(60001, 1)]), (0, [(60002, 1)]))], [(0, [(60001, 1)]), (29999, [(60001, (-1))])], [(0, [(60002, 1)]), (15, [(60002, (-1))])])
      | none => false) = true)) fun β b0 b1 eb => ?_
    have e : gz h' 2467 (β 60001) = ga h' 2467 (β 60001) := ga_gz (c := 2467) b0 (by omega)
    have eb : β 60002 = ga h' 2467 (β 60001) := eb.trans e
    have dX12_a_headings := dX12_a_headings (β 60001) b0 b1
    rw [← eb] at dX12_a_headings
    exact List.forall_mem_cons.mpr ⟨dX12_a_headings.1, List.forall_mem_cons.mpr ⟨dX12_a_headings.2, fun _ y => absurd y List.not_mem_nil⟩⟩
  have tX12_a_movesf : zGl zG zi_X12_a_movesf h' := (mvf_iff (by omega)).mpr fun i i0 i1 => by
    rcases w with ⟨w0, _, w, _⟩ | ⟨w0, w3, w2, w, _⟩
    · rw [w]; exact mf i i0 (by omega)
    · by_cases q : i = ga h 2449 23
      · rw [q]; omega
      · rw [(w i i0 q).2]; exact mf i i0 (by omega)
  have t1 : zGl zG 1 h' := by
    show P12 h'
    intro x x0 x1 n n1 n2
    rcases w with ⟨_, wa, wb, wc⟩ | ⟨_, w3, w2, w, w4, _, _, w5⟩
    · rw [wb] at n2
      rw [wa, wc]
      exact pp x x0 x1 n n1 n2
    · by_cases q : x = ga h 2449 23
      · rw [q] at n2 ⊢
        exact w5 n (by omega)
      · rw [(w x x0 q).2] at n2
        rw [(w x x0 q).1, pc12_eq (H := ga h 2467) fun j hj => w4 (5000 * x + j) (by omega) (by omega)]
        exact pp x x0 x1 n n1 n2
  refine ⟨fun v => if v < 200 then ρ v else if v = 200 then o.2.2 else if v = 201 then ga h' 2449 20 else if v = 202 then ga h' 2449 21 else if v = 203 then ga h' 2449 22 else if v = 204 then ga h' 2449 23 else if v = 205 then ga h' 2449 27 else ga h' 2449 28, by exact fun v hv => if_pos (bltN (List.all_eq_true.mp (show (cAv ct_X12_search).all (fun v => Nat.blt v 200) = true by decide +kernel) v (zmem_of hv))), ⟨o1, Prod.ext o2 rfl⟩, S, F, ?_, ?_, fun _ y => absurd y List.not_mem_nil, ?_, fun _ y => absurd y List.not_mem_nil⟩
  · refine List.forall_mem_cons.mpr ⟨?_, List.forall_mem_cons.mpr ⟨?_, List.forall_mem_cons.mpr ⟨?_, List.forall_mem_cons.mpr ⟨?_, List.forall_mem_cons.mpr ⟨?_, List.forall_mem_cons.mpr ⟨?_, fun _ y => absurd y List.not_mem_nil⟩⟩⟩⟩⟩⟩
    · exact ga_gz (c := 2449) (i := 20) (by decide) (by decide)
    · exact ga_gz (c := 2449) (i := 21) (by decide) (by decide)
    · exact ga_gz (c := 2449) (i := 22) (by decide) (by decide)
    · exact ga_gz (c := 2449) (i := 23) (by decide) (by decide)
    · exact ga_gz (c := 2449) (i := 27) (by decide) (by decide)
    · exact ga_gz (c := 2449) (i := 28) (by decide) (by decide)
  · refine List.forall_mem_cons.mpr ⟨?_, List.forall_mem_cons.mpr ⟨?_, List.forall_mem_cons.mpr ⟨?_, List.forall_mem_cons.mpr ⟨?_, List.forall_mem_cons.mpr ⟨?_, List.forall_mem_cons.mpr ⟨?_, List.forall_mem_cons.mpr ⟨?_, List.forall_mem_cons.mpr ⟨?_, List.forall_mem_cons.mpr ⟨?_, List.forall_mem_cons.mpr ⟨?_, List.forall_mem_cons.mpr ⟨?_, List.forall_mem_cons.mpr ⟨?_, fun _ y => absurd y List.not_mem_nil⟩⟩⟩⟩⟩⟩⟩⟩⟩⟩⟩⟩
    · show (0 : Int) ≤ 0 + ((-1) * ρ 0 + (1 * ga h' 2449 20 + 0))
      omega
    · show (0 : Int) ≤ 0 + (1 * ρ 0 + ((-1) * ga h' 2449 20 + 0))
      omega
    · show (0 : Int) ≤ 0 + ((-1) * ρ 1 + (1 * ga h' 2449 21 + 0))
      omega
    · show (0 : Int) ≤ 0 + (1 * ρ 1 + ((-1) * ga h' 2449 21 + 0))
      omega
    · show (0 : Int) ≤ 0 + ((-1) * ρ 2 + (1 * ga h' 2449 22 + 0))
      omega
    · show (0 : Int) ≤ 0 + (1 * ρ 2 + ((-1) * ga h' 2449 22 + 0))
      omega
    · show (0 : Int) ≤ 0 + ((-1) * ρ 50 + (1 * ga h' 2449 23 + 0))
      omega
    · show (0 : Int) ≤ 1 + (1 * ρ 50 + ((-1) * ga h' 2449 23 + 0))
      omega
    · show (0 : Int) ≤ (-1) + (1 * ga h' 2449 27 + 0)
      omega
    · show (0 : Int) ≤ 1 + ((-1) * ga h' 2449 27 + 0)
      omega
    · show (0 : Int) ≤ 0 + (1 * ga h' 2449 28 + 0)
      omega
    · show (0 : Int) ≤ 1 + ((-1) * ga h' 2449 28 + 0)
      omega
  · exact List.forall_mem_cons.mpr ⟨tX12_f_first, List.forall_mem_cons.mpr ⟨tX12_f_goal, List.forall_mem_cons.mpr ⟨tX12_f_most, List.forall_mem_cons.mpr ⟨tX12_f_found, List.forall_mem_cons.mpr ⟨tX12_a_firsts, List.forall_mem_cons.mpr ⟨tX12_a_moves, List.forall_mem_cons.mpr ⟨tX12_a_movesf, List.forall_mem_cons.mpr ⟨tX12_a_headings, List.forall_mem_cons.mpr ⟨tX12_f_proved, List.forall_mem_cons.mpr ⟨tX12_a_best, List.forall_mem_cons.mpr ⟨tX12_a_bestTurns, List.forall_mem_cons.mpr ⟨tX12_a_bestMoves, List.forall_mem_cons.mpr ⟨t1, fun _ y => absurd y List.not_mem_nil⟩⟩⟩⟩⟩⟩⟩⟩⟩⟩⟩⟩⟩
