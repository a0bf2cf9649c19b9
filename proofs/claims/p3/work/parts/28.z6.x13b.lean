/-! from the walks by hand to the contracts: X13 -/
theorem sm12_zero : ∀ n : Nat, sm12 (fun _ => 0) n = 0
  | 0 => rfl
  | n + 1 => by
    show sm12 (fun _ => 0) n + 0 = 0
    rw [sm12_zero n]
    rfl
def ct_X13_sendAll : ZCt := (468, [(2, (2468, []))], [], [], [zi_X13_f_cuts, zi_X13_f_pits, zi_X13_f_fills, zi_X13_f_ways, zi_X13_f_arcs, zi_X13_a_cutVolume, zi_X13_a_cutKind, zi_X13_a_cutWeek, zi_X13_a_cutMetre, zi_X13_a_pitMetre, zi_X13_a_pitCents, zi_X13_a_fillVolume, zi_X13_a_fillWeek, zi_X13_a_fillMetre, zi_X13_a_wayFrom, zi_X13_a_wayTo, zi_X13_a_wayCents, zi_X13_a_above, zi_X13_a_below, zi_X13_a_begin, zi_X13_a_finish, zi_X13_a_by, zi_X13_a_mosts, zi_X13_lp, zi_X13_lb, zi_X13_lm, zi_X13_l1, zi_X13_l2, zi_X13_l3, zi_X13_ld, zi_X13_lf], [(2468, 2468, 31, 31), (2468, 2468, 32, 32), (2490, 2490, 1, 0), (2492, 2492, 1, 0), (2493, 2493, 1, 0)], none, [], [], [], [zi_X13_a_by, 4], [], [], 0, 0, [])
set_option maxRecDepth 100000 in
set_option maxHeartbeats 4000000 in
theorem ok_X13_sendAll : CtOk zG zT ct_X13_sendAll := by
  refine ⟨by decide +kernel, fun q hq ρ h st hE hF hV _ => ?_⟩
  cases (show some ((KX13_sendAll, yX13_sendAll, 13, 0, 0) : MR) = some q from hq)
  have eA : ((kA ct_X13_sendAll).map fun q => (q.1, zv ρ q.2) : List MV) = [(2, ((2468 : Nat) : Int))] := by
    show ([(2, 2468 + 0)] : List MV) = _
    simp only [Int.add_zero, Int.zero_add, Int.one_mul]
    rfl
  show MCal KX13_sendAll yX13_sendAll _ _ _ h _
  rw [eA]
  have cX13_f_arcs : 0 ≤ 0 + (1 * (ga h 2468 22) + 0) ∧ 0 ≤ 140 + ((-1) * (ga h 2468 22) + 0) := by
    have w := hV zi_X13_f_arcs (List.mem_of_getElem? (i := 4) rfl)
    unfold zGl at w
    rw [(zG_is (by decide +kernel : (match zG.1 zi_X13_f_arcs with
      | some x => zBeq x ([60001], [((2468, 2468, 22, 22), (2468, []), (22, []), (0, [(60001, 1)]))], [], [(0, [(60001, 1)]), (140, [(60001, (-1))])])
      | none => false) = true))] at w
    have e0 : gz h 2468 22 = ga h 2468 22 := ga_gz (c := 2468) (by omega) (by omega)
    have w := w (fun v =>  (ga h 2468 22)) (fun v =>  (ga h 2468 22)) (fun _ _ => rfl) (List.forall_mem_cons.mpr ⟨⟨?_, ?_⟩, fun _ y => absurd y List.not_mem_nil⟩) (fun _ y => absurd y List.not_mem_nil)
    · have z0 : (0 : Int) ≤ 0 + (1 * (ga h 2468 22) + 0) := w _ (List.mem_cons_self)
      have z1 : (0 : Int) ≤ 140 + ((-1) * (ga h 2468 22) + 0) := w _ (List.mem_cons_of_mem _ List.mem_cons_self)
      exact ⟨z0, z1⟩
    · exact (inZ1 (c := 2468) (j := 22) rfl)
    · show gz h (2468 + 0) (22 + 0) = 0 + (1 * (ga h 2468 22) + 0)
      have e0 : gz h (2468 + 0) (22 + 0) = (ga h 2468 22) := e0
      omega
  have cX13_a_begin : ∀ i : Int, 0 ≤ 0 + (1 * i + 0) → 0 ≤ 139 + ((-1) * i + 0) → 0 ≤ 0 + (1 * (ga h 2486 i) + 0) ∧ 0 ≤ 33 + ((-1) * (ga h 2486 i) + 0) := fun i g0 g1 => by
    have w := hV zi_X13_a_begin (List.mem_of_getElem? (i := 19) rfl)
    unfold zGl at w
    rw [(zG_is (by decide +kernel : (match zG.1 zi_X13_a_begin with
      | some x => zBeq x ([60001, 60002], [((2486, 2486, 1, 0), (2486, []), (0, [(60001, 1)]), (0, [(60002, 1)]))], [(0, [(60001, 1)]), (139, [(60001, (-1))])], [(0, [(60002, 1)]), (33, [(60002, (-1))])])
      | none => false) = true))] at w
    have e0 : gz h 2486 i = ga h 2486 i := ga_gz (c := 2486) (by omega) (by omega)
    have w := w (fun v => bif Nat.beq v 60002 then (ga h 2486 i) else i) (fun v => bif Nat.beq v 60002 then (ga h 2486 i) else i) (fun _ _ => rfl) (List.forall_mem_cons.mpr ⟨⟨?_, ?_⟩, fun _ y => absurd y List.not_mem_nil⟩) (List.forall_mem_cons.mpr ⟨?_, List.forall_mem_cons.mpr ⟨?_, fun _ y => absurd y List.not_mem_nil⟩⟩)
    · have z0 : (0 : Int) ≤ 0 + (1 * (ga h 2486 i) + 0) := w _ (List.mem_cons_self)
      have z1 : (0 : Int) ≤ 33 + ((-1) * (ga h 2486 i) + 0) := w _ (List.mem_cons_of_mem _ List.mem_cons_self)
      exact ⟨z0, z1⟩
    · exact (inZA (c := 2486))
    · show gz h (2486 + 0) (0 + (1 * i + 0)) = 0 + (1 * (ga h 2486 i) + 0)
      rw [show (0 + (1 * i + 0) : Int) = i by omega]
      have e0 : gz h (2486 + 0) (i) = (ga h 2486 i) := e0
      omega
    · show (0 : Int) ≤ 0 + (1 * i + 0)
      omega
    · show (0 : Int) ≤ 139 + ((-1) * i + 0)
      omega
  have cX13_a_finish : ∀ i : Int, 0 ≤ 0 + (1 * i + 0) → 0 ≤ 139 + ((-1) * i + 0) → 0 ≤ 0 + (1 * (ga h 2487 i) + 0) ∧ 0 ≤ 33 + ((-1) * (ga h 2487 i) + 0) := fun i g0 g1 => by
    have w := hV zi_X13_a_finish (List.mem_of_getElem? (i := 20) rfl)
    unfold zGl at w
    rw [(zG_is (by decide +kernel : (match zG.1 zi_X13_a_finish with
      | some x => zBeq x ([60001, 60002], [((2487, 2487, 1, 0), (2487, []), (0, [(60001, 1)]), (0, [(60002, 1)]))], [(0, [(60001, 1)]), (139, [(60001, (-1))])], [(0, [(60002, 1)]), (33, [(60002, (-1))])])
      | none => false) = true))] at w
    have e0 : gz h 2487 i = ga h 2487 i := ga_gz (c := 2487) (by omega) (by omega)
    have w := w (fun v => bif Nat.beq v 60002 then (ga h 2487 i) else i) (fun v => bif Nat.beq v 60002 then (ga h 2487 i) else i) (fun _ _ => rfl) (List.forall_mem_cons.mpr ⟨⟨?_, ?_⟩, fun _ y => absurd y List.not_mem_nil⟩) (List.forall_mem_cons.mpr ⟨?_, List.forall_mem_cons.mpr ⟨?_, fun _ y => absurd y List.not_mem_nil⟩⟩)
    · have z0 : (0 : Int) ≤ 0 + (1 * (ga h 2487 i) + 0) := w _ (List.mem_cons_self)
      have z1 : (0 : Int) ≤ 33 + ((-1) * (ga h 2487 i) + 0) := w _ (List.mem_cons_of_mem _ List.mem_cons_self)
      exact ⟨z0, z1⟩
    · exact (inZA (c := 2487))
    · show gz h (2487 + 0) (0 + (1 * i + 0)) = 0 + (1 * (ga h 2487 i) + 0)
      rw [show (0 + (1 * i + 0) : Int) = i by omega]
      have e0 : gz h (2487 + 0) (i) = (ga h 2487 i) := e0
      omega
    · show (0 : Int) ≤ 0 + (1 * i + 0)
      omega
    · show (0 : Int) ≤ 139 + ((-1) * i + 0)
      omega
  have cX13_lp : ∀ i : Int, 0 ≤ 0 + (1 * i + 0) → 0 ≤ (-1) + ((-1) * i + (1 * (ga h 2468 22) + 0)) → 0 ≤ 0 + (1 * (ga h 2489 i) + 0) ∧ 0 ≤ 300000 + ((-1) * (ga h 2489 i) + 0) := fun i g0 g1 => by
    have w := hV zi_X13_lp (List.mem_of_getElem? (i := 23) rfl)
    unfold zGl at w
    rw [(zG_is (by decide +kernel : (match zG.1 zi_X13_lp with
      | some x => zBeq x ([60001, 60002, 60004], [((2489, 2489, 1, 0), (2489, []), (0, [(60001, 1)]), (0, [(60002, 1)])), ((2468, 2468, 22, 22), (2468, []), (22, []), (0, [(60004, 1)]))], [(0, [(60001, 1)]), ((-1), [(60001, (-1)), (60004, 1)])], [(0, [(60002, 1)]), (300000, [(60002, (-1))])])
      | none => false) = true))] at w
    have e0 : gz h 2489 i = ga h 2489 i := ga_gz (c := 2489) (by omega) (by omega)
    have e1 : gz h 2468 22 = ga h 2468 22 := ga_gz (c := 2468) (by omega) (by omega)
    have w := w (fun v => bif Nat.beq v 60002 then (ga h 2489 i) else bif Nat.beq v 60004 then (ga h 2468 22) else i) (fun v => bif Nat.beq v 60002 then (ga h 2489 i) else bif Nat.beq v 60004 then (ga h 2468 22) else i) (fun _ _ => rfl) (List.forall_mem_cons.mpr ⟨⟨?_, ?_⟩, List.forall_mem_cons.mpr ⟨⟨?_, ?_⟩, fun _ y => absurd y List.not_mem_nil⟩⟩) (List.forall_mem_cons.mpr ⟨?_, List.forall_mem_cons.mpr ⟨?_, fun _ y => absurd y List.not_mem_nil⟩⟩)
    · have z0 : (0 : Int) ≤ 0 + (1 * (ga h 2489 i) + 0) := w _ (List.mem_cons_self)
      have z1 : (0 : Int) ≤ 300000 + ((-1) * (ga h 2489 i) + 0) := w _ (List.mem_cons_of_mem _ List.mem_cons_self)
      exact ⟨z0, z1⟩
    · exact (inZA (c := 2489))
    · show gz h (2489 + 0) (0 + (1 * i + 0)) = 0 + (1 * (ga h 2489 i) + 0)
      rw [show (0 + (1 * i + 0) : Int) = i by omega]
      have e0 : gz h (2489 + 0) (i) = (ga h 2489 i) := e0
      omega
    · exact (inZ1 (c := 2468) (j := 22) rfl)
    · show gz h (2468 + 0) (22 + 0) = 0 + (1 * (ga h 2468 22) + 0)
      have e1 : gz h (2468 + 0) (22 + 0) = (ga h 2468 22) := e1
      omega
    · show (0 : Int) ≤ 0 + (1 * i + 0)
      omega
    · show (0 : Int) ≤ (-1) + ((-1) * i + (1 * (ga h 2468 22) + 0))
      omega
  have cX13_lb : ∀ i : Int, 0 ≤ 0 + (1 * i + 0) → 0 ≤ (-1) + ((-1) * i + (1 * (ga h 2468 22) + 0)) → 0 ≤ 32 + ((-1) * (ga h 2486 i) + 0) := fun i g0 g1 => by
    have w := hV zi_X13_lb (List.mem_of_getElem? (i := 24) rfl)
    unfold zGl at w
    rw [(zG_is (by decide +kernel : (match zG.1 zi_X13_lb with
      | some x => zBeq x ([60001, 60002, 60004], [((2486, 2486, 1, 0), (2486, []), (0, [(60001, 1)]), (0, [(60002, 1)])), ((2468, 2468, 22, 22), (2468, []), (22, []), (0, [(60004, 1)]))], [(0, [(60001, 1)]), ((-1), [(60001, (-1)), (60004, 1)])], [(32, [(60002, (-1))])])
      | none => false) = true))] at w
    have e0 : gz h 2486 i = ga h 2486 i := ga_gz (c := 2486) (by omega) (by omega)
    have e1 : gz h 2468 22 = ga h 2468 22 := ga_gz (c := 2468) (by omega) (by omega)
    have w := w (fun v => bif Nat.beq v 60002 then (ga h 2486 i) else bif Nat.beq v 60004 then (ga h 2468 22) else i) (fun v => bif Nat.beq v 60002 then (ga h 2486 i) else bif Nat.beq v 60004 then (ga h 2468 22) else i) (fun _ _ => rfl) (List.forall_mem_cons.mpr ⟨⟨?_, ?_⟩, List.forall_mem_cons.mpr ⟨⟨?_, ?_⟩, fun _ y => absurd y List.not_mem_nil⟩⟩) (List.forall_mem_cons.mpr ⟨?_, List.forall_mem_cons.mpr ⟨?_, fun _ y => absurd y List.not_mem_nil⟩⟩)
    · have z0 : (0 : Int) ≤ 32 + ((-1) * (ga h 2486 i) + 0) := w _ (List.mem_cons_self)
      exact z0
    · exact (inZA (c := 2486))
    · show gz h (2486 + 0) (0 + (1 * i + 0)) = 0 + (1 * (ga h 2486 i) + 0)
      rw [show (0 + (1 * i + 0) : Int) = i by omega]
      have e0 : gz h (2486 + 0) (i) = (ga h 2486 i) := e0
      omega
    · exact (inZ1 (c := 2468) (j := 22) rfl)
    · show gz h (2468 + 0) (22 + 0) = 0 + (1 * (ga h 2468 22) + 0)
      have e1 : gz h (2468 + 0) (22 + 0) = (ga h 2468 22) := e1
      omega
    · show (0 : Int) ≤ 0 + (1 * i + 0)
      omega
    · show (0 : Int) ≤ (-1) + ((-1) * i + (1 * (ga h 2468 22) + 0))
      omega
  have cX13_lm : ∀ i : Int, 0 ≤ 0 + (1 * i + 0) → 0 ≤ (-1) + ((-1) * i + (1 * (ga h 2468 22) + 0)) → 0 ≤ 1 + (1 * (ga h 2488 i) + 0) ∧ 0 ≤ 1125899906842624 + ((-1) * (ga h 2488 i) + 0) := fun i g0 g1 => by
    have w := hV zi_X13_lm (List.mem_of_getElem? (i := 25) rfl)
    unfold zGl at w
    rw [(zG_is (by decide +kernel : (match zG.1 zi_X13_lm with
      | some x => zBeq x ([60001, 60002, 60004], [((2488, 2488, 1, 0), (2488, []), (0, [(60001, 1)]), (0, [(60002, 1)])), ((2468, 2468, 22, 22), (2468, []), (22, []), (0, [(60004, 1)]))], [(0, [(60001, 1)]), ((-1), [(60001, (-1)), (60004, 1)])], [(1, [(60002, 1)]), (1125899906842624, [(60002, (-1))])])
      | none => false) = true))] at w
    have e0 : gz h 2488 i = ga h 2488 i := ga_gz (c := 2488) (by omega) (by omega)
    have e1 : gz h 2468 22 = ga h 2468 22 := ga_gz (c := 2468) (by omega) (by omega)
    have w := w (fun v => bif Nat.beq v 60002 then (ga h 2488 i) else bif Nat.beq v 60004 then (ga h 2468 22) else i) (fun v => bif Nat.beq v 60002 then (ga h 2488 i) else bif Nat.beq v 60004 then (ga h 2468 22) else i) (fun _ _ => rfl) (List.forall_mem_cons.mpr ⟨⟨?_, ?_⟩, List.forall_mem_cons.mpr ⟨⟨?_, ?_⟩, fun _ y => absurd y List.not_mem_nil⟩⟩) (List.forall_mem_cons.mpr ⟨?_, List.forall_mem_cons.mpr ⟨?_, fun _ y => absurd y List.not_mem_nil⟩⟩)
    · have z0 : (0 : Int) ≤ 1 + (1 * (ga h 2488 i) + 0) := w _ (List.mem_cons_self)
      have z1 : (0 : Int) ≤ 1125899906842624 + ((-1) * (ga h 2488 i) + 0) := w _ (List.mem_cons_of_mem _ List.mem_cons_self)
      exact ⟨z0, z1⟩
    · exact (inZA (c := 2488))
    · show gz h (2488 + 0) (0 + (1 * i + 0)) = 0 + (1 * (ga h 2488 i) + 0)
      rw [show (0 + (1 * i + 0) : Int) = i by omega]
      have e0 : gz h (2488 + 0) (i) = (ga h 2488 i) := e0
      omega
    · exact (inZ1 (c := 2468) (j := 22) rfl)
    · show gz h (2468 + 0) (22 + 0) = 0 + (1 * (ga h 2468 22) + 0)
      have e1 : gz h (2468 + 0) (22 + 0) = (ga h 2468 22) := e1
      omega
    · show (0 : Int) ≤ 0 + (1 * i + 0)
      omega
    · show (0 : Int) ≤ (-1) + ((-1) * i + (1 * (ga h 2468 22) + 0))
      omega
  have cX13_ld : ∀ i : Int, 0 ≤ 0 + (1 * i + 0) → 0 ≤ (-1) + ((-1) * i + (1 * (ga h 2468 22) + 0)) → 0 ≤ 0 + (1 * (ga h 2491 i) + 0) ∧ 0 ≤ 0 + ((-1) * (ga h 2491 i) + 0) := fun i g0 g1 => by
    have w := hV zi_X13_ld (List.mem_of_getElem? (i := 29) rfl)
    unfold zGl at w
    rw [(zG_is (by decide +kernel : (match zG.1 zi_X13_ld with
      | some x => zBeq x ([60001, 60002, 60004], [((2491, 2491, 1, 0), (2491, []), (0, [(60001, 1)]), (0, [(60002, 1)])), ((2468, 2468, 22, 22), (2468, []), (22, []), (0, [(60004, 1)]))], [(0, [(60001, 1)]), ((-1), [(60001, (-1)), (60004, 1)])], [(0, [(60002, 1)]), (0, [(60002, (-1))])])
      | none => false) = true))] at w
    have e0 : gz h 2491 i = ga h 2491 i := ga_gz (c := 2491) (by omega) (by omega)
    have e1 : gz h 2468 22 = ga h 2468 22 := ga_gz (c := 2468) (by omega) (by omega)
    have w := w (fun v => bif Nat.beq v 60002 then (ga h 2491 i) else bif Nat.beq v 60004 then (ga h 2468 22) else i) (fun v => bif Nat.beq v 60002 then (ga h 2491 i) else bif Nat.beq v 60004 then (ga h 2468 22) else i) (fun _ _ => rfl) (List.forall_mem_cons.mpr ⟨⟨?_, ?_⟩, List.forall_mem_cons.mpr ⟨⟨?_, ?_⟩, fun _ y => absurd y List.not_mem_nil⟩⟩) (List.forall_mem_cons.mpr ⟨?_, List.forall_mem_cons.mpr ⟨?_, fun _ y => absurd y List.not_mem_nil⟩⟩)
    · have z0 : (0 : Int) ≤ 0 + (1 * (ga h 2491 i) + 0) := w _ (List.mem_cons_self)
      have z1 : (0 : Int) ≤ 0 + ((-1) * (ga h 2491 i) + 0) := w _ (List.mem_cons_of_mem _ List.mem_cons_self)
      exact ⟨z0, z1⟩
    · exact (inZA (c := 2491))
    · show gz h (2491 + 0) (0 + (1 * i + 0)) = 0 + (1 * (ga h 2491 i) + 0)
      rw [show (0 + (1 * i + 0) : Int) = i by omega]
      have e0 : gz h (2491 + 0) (i) = (ga h 2491 i) := e0
      omega
    · exact (inZ1 (c := 2468) (j := 22) rfl)
    · show gz h (2468 + 0) (22 + 0) = 0 + (1 * (ga h 2468 22) + 0)
      have e1 : gz h (2468 + 0) (22 + 0) = (ga h 2468 22) := e1
      omega
    · show (0 : Int) ≤ 0 + (1 * i + 0)
      omega
    · show (0 : Int) ≤ (-1) + ((-1) * i + (1 * (ga h 2468 22) + 0))
      omega
  have cX13_lf : ∀ i : Int, 0 ≤ 0 + (1 * i + 0) → 0 ≤ (-1) + ((-1) * i + (1 * (ga h 2468 22) + 0)) → 0 ≤ 0 + (1 * (ga h 2490 i) + 0) ∧ 0 ≤ 0 + ((-1) * (ga h 2490 i) + 0) := fun i g0 g1 => by
    have w := hV zi_X13_lf (List.mem_of_getElem? (i := 30) rfl)
    unfold zGl at w
    rw [(zG_is (by decide +kernel : (match zG.1 zi_X13_lf with
      | some x => zBeq x ([60001, 60002, 60004], [((2490, 2490, 1, 0), (2490, []), (0, [(60001, 1)]), (0, [(60002, 1)])), ((2468, 2468, 22, 22), (2468, []), (22, []), (0, [(60004, 1)]))], [(0, [(60001, 1)]), ((-1), [(60001, (-1)), (60004, 1)])], [(0, [(60002, 1)]), (0, [(60002, (-1))])])
      | none => false) = true))] at w
    have e0 : gz h 2490 i = ga h 2490 i := ga_gz (c := 2490) (by omega) (by omega)
    have e1 : gz h 2468 22 = ga h 2468 22 := ga_gz (c := 2468) (by omega) (by omega)
    have w := w (fun v => bif Nat.beq v 60002 then (ga h 2490 i) else bif Nat.beq v 60004 then (ga h 2468 22) else i) (fun v => bif Nat.beq v 60002 then (ga h 2490 i) else bif Nat.beq v 60004 then (ga h 2468 22) else i) (fun _ _ => rfl) (List.forall_mem_cons.mpr ⟨⟨?_, ?_⟩, List.forall_mem_cons.mpr ⟨⟨?_, ?_⟩, fun _ y => absurd y List.not_mem_nil⟩⟩) (List.forall_mem_cons.mpr ⟨?_, List.forall_mem_cons.mpr ⟨?_, fun _ y => absurd y List.not_mem_nil⟩⟩)
    · have z0 : (0 : Int) ≤ 0 + (1 * (ga h 2490 i) + 0) := w _ (List.mem_cons_self)
      have z1 : (0 : Int) ≤ 0 + ((-1) * (ga h 2490 i) + 0) := w _ (List.mem_cons_of_mem _ List.mem_cons_self)
      exact ⟨z0, z1⟩
    · exact (inZA (c := 2490))
    · show gz h (2490 + 0) (0 + (1 * i + 0)) = 0 + (1 * (ga h 2490 i) + 0)
      rw [show (0 + (1 * i + 0) : Int) = i by omega]
      have e0 : gz h (2490 + 0) (i) = (ga h 2490 i) := e0
      omega
    · exact (inZ1 (c := 2468) (j := 22) rfl)
    · show gz h (2468 + 0) (22 + 0) = 0 + (1 * (ga h 2468 22) + 0)
      have e1 : gz h (2468 + 0) (22 + 0) = (ga h 2468 22) := e1
      omega
    · show (0 : Int) ≤ 0 + (1 * i + 0)
      omega
    · show (0 : Int) ≤ (-1) + ((-1) * i + (1 * (ga h 2468 22) + 0))
      omega
  have nr : NR13 (N13 h (-1)) := ⟨by show 0 ≤ ga h 2468 22 ∧ ga h 2468 22 ≤ 140; omega, fun e e0 e1 => by
    have e1 : e < ga h 2468 22 := e1
    have a := cX13_a_begin e (by omega) (by omega)
    have b := cX13_a_finish e (by omega) (by omega)
    have d := cX13_lp e (by omega) (by omega)
    show (0 ≤ ga h 2486 e ∧ ga h 2486 e ≤ 33) ∧ (0 ≤ ga h 2487 e ∧ ga h 2487 e ≤ 33) ∧ 0 ≤ ga h 2489 e ∧ ga h 2489 e ≤ 300000
    omega⟩
  have nb : NB13 h := fun e e0 e1 => by
    have a := cX13_lf e (by omega) (by omega)
    have b := cX13_lm e (by omega) (by omega)
    omega
  have fz : ∀ e : Int, 0 ≤ e → e < ga h 2468 22 → ga h 2490 e = 0 := fun e e0 e1 => by
    have a := cX13_lf e (by omega) (by omega)
    omega
  have px : ∃ π, PV13 (N13 h (-1)) π := by
    refine ⟨fun _ => 0, fun v y ev => ?_⟩
    obtain ⟨y0, yb, yw, yd, yn, yg, yr⟩ := ev
    have yb : 0 ≤ eb13 y ∧ eb13 y < ga h 2468 22 := yb
    have a := fz (eb13 y) yb.1 yb.2
    have d := cX13_lp (eb13 y) (by omega) (by omega)
    have yr : 0 < (if 0 < y then ga h 2488 (eb13 y) - ga h 2490 (eb13 y) else ga h 2490 (eb13 y)) := yr
    show (0 : Int) ≤ 0 + (if 0 < y then ga h 2489 (eb13 y) else -ga h 2489 (eb13 y))
    by_cases q : 0 < y
    · rw [if_pos q]
      omega
    · rw [if_neg q] at yr
      omega
  have ne : ∀ e : Int, 0 ≤ e → e < ga h 2468 22 → ga h 2486 e ≠ 33 := fun e e0 e1 => by
    have a := cX13_lb e (by omega) (by omega)
    omega
  refine MCal.mono (fun o h' w => ?_) (h_X13_sendAll (h := h) nr ne nb px (str_of (by decide +kernel) st))
  obtain ⟨o1, oo, fl, nb', ⟨π, pv, wi⟩, xx⟩ := w
  have fn : ∀ j : Nat, (j : Int) ≠ 31 → (j : Int) ≠ 32 → (h'.2 2468).2.2 j = (h.2 2468).2.2 j := fun j n m => ga_nat (fl j (Int.natCast_nonneg _) n m)
  have F : Frm (kMd ct_X13_sendAll) h h' := by
    refine frm_only oo fun c hc j n => ?_
    simp only [List.mem_cons, List.not_mem_nil, or_false] at hc
    rcases hc with rfl | rfl | rfl | rfl
    · refine fn j (fun m => ?_) (fun m => ?_)
      · exact n _ (List.mem_of_getElem? (i := 0) rfl) (inZ1 (c := 2468) (j := 31) m)
      · exact n _ (List.mem_of_getElem? (i := 1) rfl) (inZ1 (c := 2468) (j := 32) m)
    · exact absurd inZA (n _ (List.mem_of_getElem? (i := 2) rfl))
    · exact absurd inZA (n _ (List.mem_of_getElem? (i := 3) rfl))
    · exact absurd inZA (n _ (List.mem_of_getElem? (i := 4) rfl))
  have S : StrZ zT h' := by
    refine strz_only st oo (fun c hc j n => ?_) (fun c hc => ?_)
    · simp only [List.mem_cons, List.not_mem_nil, or_false] at hc
      rcases hc with rfl | rfl | rfl | rfl
      · refine fn j (fun m => ?_) (fun m => ?_)
        · have m : j = 31 := by omega
          subst m
          exact n rfl
        · have m : j = 32 := by omega
          subst m
          exact n rfl
      · exact absurd rfl n
      · exact absurd rfl n
      · exact absurd rfl n
    · simp only [List.mem_cons, List.not_mem_nil, or_false] at hc
      rcases hc with rfl | rfl | rfl | rfl <;> rfl
  have k22 : ga h' 2468 22 = ga h 2468 22 := fl 22 (by decide) (by decide) (by decide)
  have kc : ∀ c : Nat, c ∈ ([2486, 2487, 2488, 2489, 2491] : List Nat) → ga h' c = ga h c := fun c hc => onlyF oo (by revert hc; revert c; decide)
  have ld : LD13 h' := by
    refine ⟨by rw [k22]; omega, nb', ⟨π, pv⟩, fun u u0 u1 => ?_⟩
    have a := xx u (by omega) (by omega)
    have z : ex13 (N13 h (-1)) (ga h 2490) u = 0 := by
      show sm12 (fun j => if ga h 2487 j = u then ga h 2490 j else if ga h 2486 j = u then -ga h 2490 j else 0) (ga h 2468 22).toNat = 0
      rw [sm12_cg (f := fun _ => 0) (fun j j0 j1 => by
        have b := fz j j0 (by omega)
        show (if ga h 2487 j = u then ga h 2490 j else if ga h 2486 j = u then -ga h 2490 j else 0) = 0
        rw [b]
        repeat' split
        all_goals rfl)]
      exact sm12_zero _
    rw [z] at a
    rw [← a]
    show sm12 (fun j => if ga h' 2487 j = u then ga h' 2490 j else if ga h' 2486 j = u then -ga h' 2490 j else 0) (ga h' 2468 22).toNat = sm12 (fun j => if ga h 2487 j = u then ga h' 2490 j else if ga h 2486 j = u then -ga h' 2490 j else 0) (ga h 2468 22).toNat
    rw [k22, kc 2487 (by decide), kc 2486 (by decide)]
  have nr' : NR13 (N13 h' (-1)) := nr.keep (fun c hc => onlyF oo (by revert hc; revert c; decide)) k22
  have byh : BY13 h' := WI13.by (h := h') (wo := -1) (fr := 0) nr' wi
  have dX13_a_by : ∀ i : Int, 0 ≤ 0 + (1 * i + 0) → 0 ≤ 33 + ((-1) * i + 0) → 0 ≤ 140 + (1 * (ga h' 2493 i) + 0) ∧ 0 ≤ 140 + ((-1) * (ga h' 2493 i) + 0) := fun i i0 i1 => by
    have a := byh i (by omega) (by omega)
    omega
  have tX13_a_by : zGl zG zi_X13_a_by h' := by
    unfold zGl
    rw [(zG_is (by decide +kernel : (match zG.1 zi_X13_a_by with
      | some x => zBeq x ([60001, 60002], [((2493, 2493, 1, 0), (2493, []), (0, [(60001, 1)]), (0, [(60002, 1)]))], [(0, [(60001, 1)]), (33, [(60001, (-1))])], [(140, [(60002, 1)]), (140, [(60002, (-1))])])
      | none => false) = true))]
    intro ρ β _ hE hG c hc
    have g0 : (0 : Int) ≤ 0 + (1 * β 60001 + 0) := hG _ (List.mem_cons_self)
    have g1 : (0 : Int) ≤ 33 + ((-1) * β 60001 + 0) := hG _ (List.mem_cons_of_mem _ List.mem_cons_self)
    have w0 : gz h' (2493 + 0) (0 + (1 * β 60001 + 0)) = 0 + (1 * β 60002 + 0) := (hE _ (List.mem_cons_self)).2
    rw [show (0 + (1 * β 60001 + 0) : Int) = β 60001 by omega] at w0
    have e0 : gz h' (2493 + 0) (β 60001) = ga h' 2493 (β 60001) := ga_gz (c := 2493) (i := β 60001) (by omega) (by omega)
    have e0 : β 60002 = ga h' 2493 (β 60001) := by have w : gz h' (2493 + 0) (β 60001) = 0 + (1 * β 60002 + 0) := w0; omega
    have d := dX13_a_by (β 60001) (by omega) (by omega)
    simp only [List.mem_cons, List.not_mem_nil, or_false] at hc
    rcases hc with rfl | rfl
    · show (0 : Int) ≤ 140 + (1 * β 60002 + 0)
      omega
    · show (0 : Int) ≤ 140 + ((-1) * β 60002 + 0)
      omega
  refine ⟨ρ, fun _ _ => rfl, o1, S, F, fun _ y => absurd y List.not_mem_nil, fun _ y => absurd y List.not_mem_nil, fun _ y => absurd y List.not_mem_nil, List.forall_mem_cons.mpr ⟨tX13_a_by, List.forall_mem_cons.mpr ⟨ld, fun _ y => absurd y List.not_mem_nil⟩⟩, fun _ y => absurd y List.not_mem_nil⟩
def ct_X13_firstOfAll : ZCt := (470, [(2, (2468, []))], [], [], [zi_X13_f_cuts, zi_X13_f_pits, zi_X13_f_fills, zi_X13_f_ways, zi_X13_f_arcs, zi_X13_a_cutVolume, zi_X13_a_cutKind, zi_X13_a_cutWeek, zi_X13_a_cutMetre, zi_X13_a_pitMetre, zi_X13_a_pitCents, zi_X13_a_fillVolume, zi_X13_a_fillWeek, zi_X13_a_fillMetre, zi_X13_a_wayFrom, zi_X13_a_wayTo, zi_X13_a_wayCents, zi_X13_a_above, zi_X13_a_below, zi_X13_a_begin, zi_X13_a_finish, zi_X13_a_by, zi_X13_a_mosts, zi_X13_lp, zi_X13_lb, zi_X13_lm, zi_X13_l1, zi_X13_l2, zi_X13_l3, zi_X13_ld, 4], [(2490, 2490, 1, 0), (2491, 2491, 1, 0), (2492, 2492, 1, 0), (2493, 2493, 1, 0)], none, [], [], [], [zi_X13_a_by], [], [], 0, 0, [])
set_option maxRecDepth 100000 in
set_option maxHeartbeats 4000000 in
theorem ok_X13_firstOfAll : CtOk zG zT ct_X13_firstOfAll := by
  refine ⟨by decide +kernel, fun q hq ρ h st hE hF hV _ => ?_⟩
  cases (show some ((KX13_firstOfAll, yX13_firstOfAll, 13, 0, 0) : MR) = some q from hq)
  have eA : ((kA ct_X13_firstOfAll).map fun q => (q.1, zv ρ q.2) : List MV) = [(2, ((2468 : Nat) : Int))] := by
    show ([(2, 2468 + 0)] : List MV) = _
    simp only [Int.add_zero, Int.zero_add, Int.one_mul]
    rfl
  show MCal KX13_firstOfAll yX13_firstOfAll _ _ _ h _
  rw [eA]
  have cX13_f_arcs : 0 ≤ 0 + (1 * (ga h 2468 22) + 0) ∧ 0 ≤ 140 + ((-1) * (ga h 2468 22) + 0) := by
    have w := hV zi_X13_f_arcs (List.mem_of_getElem? (i := 4) rfl)
    unfold zGl at w
    rw [(zG_is (by decide +kernel : (match zG.1 zi_X13_f_arcs with
      | some x => zBeq x ([60001], [((2468, 2468, 22, 22), (2468, []), (22, []), (0, [(60001, 1)]))], [], [(0, [(60001, 1)]), (140, [(60001, (-1))])])
      | none => false) = true))] at w
    have e0 : gz h 2468 22 = ga h 2468 22 := ga_gz (c := 2468) (by omega) (by omega)
    have w := w (fun v =>  (ga h 2468 22)) (fun v =>  (ga h 2468 22)) (fun _ _ => rfl) (List.forall_mem_cons.mpr ⟨⟨?_, ?_⟩, fun _ y => absurd y List.not_mem_nil⟩) (fun _ y => absurd y List.not_mem_nil)
    · have z0 : (0 : Int) ≤ 0 + (1 * (ga h 2468 22) + 0) := w _ (List.mem_cons_self)
      have z1 : (0 : Int) ≤ 140 + ((-1) * (ga h 2468 22) + 0) := w _ (List.mem_cons_of_mem _ List.mem_cons_self)
      exact ⟨z0, z1⟩
    · exact (inZ1 (c := 2468) (j := 22) rfl)
    · show gz h (2468 + 0) (22 + 0) = 0 + (1 * (ga h 2468 22) + 0)
      have e0 : gz h (2468 + 0) (22 + 0) = (ga h 2468 22) := e0
      omega
  have cX13_f_cuts : 0 ≤ 0 + (1 * (ga h 2468 1) + 0) ∧ 0 ≤ 8 + ((-1) * (ga h 2468 1) + 0) := by
    have w := hV zi_X13_f_cuts (List.mem_of_getElem? (i := 0) rfl)
    unfold zGl at w
    rw [(zG_is (by decide +kernel : (match zG.1 zi_X13_f_cuts with
      | some x => zBeq x ([60001], [((2468, 2468, 1, 1), (2468, []), (1, []), (0, [(60001, 1)]))], [], [(0, [(60001, 1)]), (8, [(60001, (-1))])])
      | none => false) = true))] at w
    have e0 : gz h 2468 1 = ga h 2468 1 := ga_gz (c := 2468) (by omega) (by omega)
    have w := w (fun v =>  (ga h 2468 1)) (fun v =>  (ga h 2468 1)) (fun _ _ => rfl) (List.forall_mem_cons.mpr ⟨⟨?_, ?_⟩, fun _ y => absurd y List.not_mem_nil⟩) (fun _ y => absurd y List.not_mem_nil)
    · have z0 : (0 : Int) ≤ 0 + (1 * (ga h 2468 1) + 0) := w _ (List.mem_cons_self)
      have z1 : (0 : Int) ≤ 8 + ((-1) * (ga h 2468 1) + 0) := w _ (List.mem_cons_of_mem _ List.mem_cons_self)
      exact ⟨z0, z1⟩
    · exact (inZ1 (c := 2468) (j := 1) rfl)
    · show gz h (2468 + 0) (1 + 0) = 0 + (1 * (ga h 2468 1) + 0)
      have e0 : gz h (2468 + 0) (1 + 0) = (ga h 2468 1) := e0
      omega
  have cX13_f_pits : 0 ≤ 0 + (1 * (ga h 2468 6) + 0) ∧ 0 ≤ 4 + ((-1) * (ga h 2468 6) + 0) := by
    have w := hV zi_X13_f_pits (List.mem_of_getElem? (i := 1) rfl)
    unfold zGl at w
    rw [(zG_is (by decide +kernel : (match zG.1 zi_X13_f_pits with
      | some x => zBeq x ([60001], [((2468, 2468, 6, 6), (2468, []), (6, []), (0, [(60001, 1)]))], [], [(0, [(60001, 1)]), (4, [(60001, (-1))])])
      | none => false) = true))] at w
    have e0 : gz h 2468 6 = ga h 2468 6 := ga_gz (c := 2468) (by omega) (by omega)
    have w := w (fun v =>  (ga h 2468 6)) (fun v =>  (ga h 2468 6)) (fun _ _ => rfl) (List.forall_mem_cons.mpr ⟨⟨?_, ?_⟩, fun _ y => absurd y List.not_mem_nil⟩) (fun _ y => absurd y List.not_mem_nil)
    · have z0 : (0 : Int) ≤ 0 + (1 * (ga h 2468 6) + 0) := w _ (List.mem_cons_self)
      have z1 : (0 : Int) ≤ 4 + ((-1) * (ga h 2468 6) + 0) := w _ (List.mem_cons_of_mem _ List.mem_cons_self)
      exact ⟨z0, z1⟩
    · exact (inZ1 (c := 2468) (j := 6) rfl)
    · show gz h (2468 + 0) (6 + 0) = 0 + (1 * (ga h 2468 6) + 0)
      have e0 : gz h (2468 + 0) (6 + 0) = (ga h 2468 6) := e0
      omega
  have cX13_a_begin : ∀ i : Int, 0 ≤ 0 + (1 * i + 0) → 0 ≤ 139 + ((-1) * i + 0) → 0 ≤ 0 + (1 * (ga h 2486 i) + 0) ∧ 0 ≤ 33 + ((-1) * (ga h 2486 i) + 0) := fun i g0 g1 => by
    have w := hV zi_X13_a_begin (List.mem_of_getElem? (i := 19) rfl)
    unfold zGl at w
    rw [(zG_is (by decide +kernel : (match zG.1 zi_X13_a_begin with
      | some x => zBeq x ([60001, 60002], [((2486, 2486, 1, 0), (2486, []), (0, [(60001, 1)]), (0, [(60002, 1)]))], [(0, [(60001, 1)]), (139, [(60001, (-1))])], [(0, [(60002, 1)]), (33, [(60002, (-1))])])
      | none => false) = true))] at w
    have e0 : gz h 2486 i = ga h 2486 i := ga_gz (c := 2486) (by omega) (by omega)
    have w := w (fun v => bif Nat.beq v 60002 then (ga h 2486 i) else i) (fun v => bif Nat.beq v 60002 then (ga h 2486 i) else i) (fun _ _ => rfl) (List.forall_mem_cons.mpr ⟨⟨?_, ?_⟩, fun _ y => absurd y List.not_mem_nil⟩) (List.forall_mem_cons.mpr ⟨?_, List.forall_mem_cons.mpr ⟨?_, fun _ y => absurd y List.not_mem_nil⟩⟩)
    · have z0 : (0 : Int) ≤ 0 + (1 * (ga h 2486 i) + 0) := w _ (List.mem_cons_self)
      have z1 : (0 : Int) ≤ 33 + ((-1) * (ga h 2486 i) + 0) := w _ (List.mem_cons_of_mem _ List.mem_cons_self)
      exact ⟨z0, z1⟩
    · exact (inZA (c := 2486))
    · show gz h (2486 + 0) (0 + (1 * i + 0)) = 0 + (1 * (ga h 2486 i) + 0)
      rw [show (0 + (1 * i + 0) : Int) = i by omega]
      have e0 : gz h (2486 + 0) (i) = (ga h 2486 i) := e0
      omega
    · show (0 : Int) ≤ 0 + (1 * i + 0)
      omega
    · show (0 : Int) ≤ 139 + ((-1) * i + 0)
      omega
  have cX13_a_finish : ∀ i : Int, 0 ≤ 0 + (1 * i + 0) → 0 ≤ 139 + ((-1) * i + 0) → 0 ≤ 0 + (1 * (ga h 2487 i) + 0) ∧ 0 ≤ 33 + ((-1) * (ga h 2487 i) + 0) := fun i g0 g1 => by
    have w := hV zi_X13_a_finish (List.mem_of_getElem? (i := 20) rfl)
    unfold zGl at w
    rw [(zG_is (by decide +kernel : (match zG.1 zi_X13_a_finish with
      | some x => zBeq x ([60001, 60002], [((2487, 2487, 1, 0), (2487, []), (0, [(60001, 1)]), (0, [(60002, 1)]))], [(0, [(60001, 1)]), (139, [(60001, (-1))])], [(0, [(60002, 1)]), (33, [(60002, (-1))])])
      | none => false) = true))] at w
    have e0 : gz h 2487 i = ga h 2487 i := ga_gz (c := 2487) (by omega) (by omega)
    have w := w (fun v => bif Nat.beq v 60002 then (ga h 2487 i) else i) (fun v => bif Nat.beq v 60002 then (ga h 2487 i) else i) (fun _ _ => rfl) (List.forall_mem_cons.mpr ⟨⟨?_, ?_⟩, fun _ y => absurd y List.not_mem_nil⟩) (List.forall_mem_cons.mpr ⟨?_, List.forall_mem_cons.mpr ⟨?_, fun _ y => absurd y List.not_mem_nil⟩⟩)
    · have z0 : (0 : Int) ≤ 0 + (1 * (ga h 2487 i) + 0) := w _ (List.mem_cons_self)
      have z1 : (0 : Int) ≤ 33 + ((-1) * (ga h 2487 i) + 0) := w _ (List.mem_cons_of_mem _ List.mem_cons_self)
      exact ⟨z0, z1⟩
    · exact (inZA (c := 2487))
    · show gz h (2487 + 0) (0 + (1 * i + 0)) = 0 + (1 * (ga h 2487 i) + 0)
      rw [show (0 + (1 * i + 0) : Int) = i by omega]
      have e0 : gz h (2487 + 0) (i) = (ga h 2487 i) := e0
      omega
    · show (0 : Int) ≤ 0 + (1 * i + 0)
      omega
    · show (0 : Int) ≤ 139 + ((-1) * i + 0)
      omega
  have cX13_a_by : ∀ i : Int, 0 ≤ 0 + (1 * i + 0) → 0 ≤ 33 + ((-1) * i + 0) → 0 ≤ 140 + (1 * (ga h 2493 i) + 0) ∧ 0 ≤ 140 + ((-1) * (ga h 2493 i) + 0) := fun i g0 g1 => by
    have w := hV zi_X13_a_by (List.mem_of_getElem? (i := 21) rfl)
    unfold zGl at w
    rw [(zG_is (by decide +kernel : (match zG.1 zi_X13_a_by with
      | some x => zBeq x ([60001, 60002], [((2493, 2493, 1, 0), (2493, []), (0, [(60001, 1)]), (0, [(60002, 1)]))], [(0, [(60001, 1)]), (33, [(60001, (-1))])], [(140, [(60002, 1)]), (140, [(60002, (-1))])])
      | none => false) = true))] at w
    have e0 : gz h 2493 i = ga h 2493 i := ga_gz (c := 2493) (by omega) (by omega)
    have w := w (fun v => bif Nat.beq v 60002 then (ga h 2493 i) else i) (fun v => bif Nat.beq v 60002 then (ga h 2493 i) else i) (fun _ _ => rfl) (List.forall_mem_cons.mpr ⟨⟨?_, ?_⟩, fun _ y => absurd y List.not_mem_nil⟩) (List.forall_mem_cons.mpr ⟨?_, List.forall_mem_cons.mpr ⟨?_, fun _ y => absurd y List.not_mem_nil⟩⟩)
    · have z0 : (0 : Int) ≤ 140 + (1 * (ga h 2493 i) + 0) := w _ (List.mem_cons_self)
      have z1 : (0 : Int) ≤ 140 + ((-1) * (ga h 2493 i) + 0) := w _ (List.mem_cons_of_mem _ List.mem_cons_self)
      exact ⟨z0, z1⟩
    · exact (inZA (c := 2493))
    · show gz h (2493 + 0) (0 + (1 * i + 0)) = 0 + (1 * (ga h 2493 i) + 0)
      rw [show (0 + (1 * i + 0) : Int) = i by omega]
      have e0 : gz h (2493 + 0) (i) = (ga h 2493 i) := e0
      omega
    · show (0 : Int) ≤ 0 + (1 * i + 0)
      omega
    · show (0 : Int) ≤ 33 + ((-1) * i + 0)
      omega
  have cX13_lp : ∀ i : Int, 0 ≤ 0 + (1 * i + 0) → 0 ≤ (-1) + ((-1) * i + (1 * (ga h 2468 22) + 0)) → 0 ≤ 0 + (1 * (ga h 2489 i) + 0) ∧ 0 ≤ 300000 + ((-1) * (ga h 2489 i) + 0) := fun i g0 g1 => by
    have w := hV zi_X13_lp (List.mem_of_getElem? (i := 23) rfl)
    unfold zGl at w
    rw [(zG_is (by decide +kernel : (match zG.1 zi_X13_lp with
      | some x => zBeq x ([60001, 60002, 60004], [((2489, 2489, 1, 0), (2489, []), (0, [(60001, 1)]), (0, [(60002, 1)])), ((2468, 2468, 22, 22), (2468, []), (22, []), (0, [(60004, 1)]))], [(0, [(60001, 1)]), ((-1), [(60001, (-1)), (60004, 1)])], [(0, [(60002, 1)]), (300000, [(60002, (-1))])])
      | none => false) = true))] at w
    have e0 : gz h 2489 i = ga h 2489 i := ga_gz (c := 2489) (by omega) (by omega)
    have e1 : gz h 2468 22 = ga h 2468 22 := ga_gz (c := 2468) (by omega) (by omega)
    have w := w (fun v => bif Nat.beq v 60002 then (ga h 2489 i) else bif Nat.beq v 60004 then (ga h 2468 22) else i) (fun v => bif Nat.beq v 60002 then (ga h 2489 i) else bif Nat.beq v 60004 then (ga h 2468 22) else i) (fun _ _ => rfl) (List.forall_mem_cons.mpr ⟨⟨?_, ?_⟩, List.forall_mem_cons.mpr ⟨⟨?_, ?_⟩, fun _ y => absurd y List.not_mem_nil⟩⟩) (List.forall_mem_cons.mpr ⟨?_, List.forall_mem_cons.mpr ⟨?_, fun _ y => absurd y List.not_mem_nil⟩⟩)
    · have z0 : (0 : Int) ≤ 0 + (1 * (ga h 2489 i) + 0) := w _ (List.mem_cons_self)
      have z1 : (0 : Int) ≤ 300000 + ((-1) * (ga h 2489 i) + 0) := w _ (List.mem_cons_of_mem _ List.mem_cons_self)
      exact ⟨z0, z1⟩
    · exact (inZA (c := 2489))
    · show gz h (2489 + 0) (0 + (1 * i + 0)) = 0 + (1 * (ga h 2489 i) + 0)
      rw [show (0 + (1 * i + 0) : Int) = i by omega]
      have e0 : gz h (2489 + 0) (i) = (ga h 2489 i) := e0
      omega
    · exact (inZ1 (c := 2468) (j := 22) rfl)
    · show gz h (2468 + 0) (22 + 0) = 0 + (1 * (ga h 2468 22) + 0)
      have e1 : gz h (2468 + 0) (22 + 0) = (ga h 2468 22) := e1
      omega
    · show (0 : Int) ≤ 0 + (1 * i + 0)
      omega
    · show (0 : Int) ≤ (-1) + ((-1) * i + (1 * (ga h 2468 22) + 0))
      omega
  have cX13_lb : ∀ i : Int, 0 ≤ 0 + (1 * i + 0) → 0 ≤ (-1) + ((-1) * i + (1 * (ga h 2468 22) + 0)) → 0 ≤ 32 + ((-1) * (ga h 2486 i) + 0) := fun i g0 g1 => by
    have w := hV zi_X13_lb (List.mem_of_getElem? (i := 24) rfl)
    unfold zGl at w
    rw [(zG_is (by decide +kernel : (match zG.1 zi_X13_lb with
      | some x => zBeq x ([60001, 60002, 60004], [((2486, 2486, 1, 0), (2486, []), (0, [(60001, 1)]), (0, [(60002, 1)])), ((2468, 2468, 22, 22), (2468, []), (22, []), (0, [(60004, 1)]))], [(0, [(60001, 1)]), ((-1), [(60001, (-1)), (60004, 1)])], [(32, [(60002, (-1))])])
      | none => false) = true))] at w
    have e0 : gz h 2486 i = ga h 2486 i := ga_gz (c := 2486) (by omega) (by omega)
    have e1 : gz h 2468 22 = ga h 2468 22 := ga_gz (c := 2468) (by omega) (by omega)
    have w := w (fun v => bif Nat.beq v 60002 then (ga h 2486 i) else bif Nat.beq v 60004 then (ga h 2468 22) else i) (fun v => bif Nat.beq v 60002 then (ga h 2486 i) else bif Nat.beq v 60004 then (ga h 2468 22) else i) (fun _ _ => rfl) (List.forall_mem_cons.mpr ⟨⟨?_, ?_⟩, List.forall_mem_cons.mpr ⟨⟨?_, ?_⟩, fun _ y => absurd y List.not_mem_nil⟩⟩) (List.forall_mem_cons.mpr ⟨?_, List.forall_mem_cons.mpr ⟨?_, fun _ y => absurd y List.not_mem_nil⟩⟩)
    · have z0 : (0 : Int) ≤ 32 + ((-1) * (ga h 2486 i) + 0) := w _ (List.mem_cons_self)
      exact z0
    · exact (inZA (c := 2486))
    · show gz h (2486 + 0) (0 + (1 * i + 0)) = 0 + (1 * (ga h 2486 i) + 0)
      rw [show (0 + (1 * i + 0) : Int) = i by omega]
      have e0 : gz h (2486 + 0) (i) = (ga h 2486 i) := e0
      omega
    · exact (inZ1 (c := 2468) (j := 22) rfl)
    · show gz h (2468 + 0) (22 + 0) = 0 + (1 * (ga h 2468 22) + 0)
      have e1 : gz h (2468 + 0) (22 + 0) = (ga h 2468 22) := e1
      omega
    · show (0 : Int) ≤ 0 + (1 * i + 0)
      omega
    · show (0 : Int) ≤ (-1) + ((-1) * i + (1 * (ga h 2468 22) + 0))
      omega
  have cX13_lm : ∀ i : Int, 0 ≤ 0 + (1 * i + 0) → 0 ≤ (-1) + ((-1) * i + (1 * (ga h 2468 22) + 0)) → 0 ≤ 1 + (1 * (ga h 2488 i) + 0) ∧ 0 ≤ 1125899906842624 + ((-1) * (ga h 2488 i) + 0) := fun i g0 g1 => by
    have w := hV zi_X13_lm (List.mem_of_getElem? (i := 25) rfl)
    unfold zGl at w
    rw [(zG_is (by decide +kernel : (match zG.1 zi_X13_lm with
      | some x => zBeq x ([60001, 60002, 60004], [((2488, 2488, 1, 0), (2488, []), (0, [(60001, 1)]), (0, [(60002, 1)])), ((2468, 2468, 22, 22), (2468, []), (22, []), (0, [(60004, 1)]))], [(0, [(60001, 1)]), ((-1), [(60001, (-1)), (60004, 1)])], [(1, [(60002, 1)]), (1125899906842624, [(60002, (-1))])])
      | none => false) = true))] at w
    have e0 : gz h 2488 i = ga h 2488 i := ga_gz (c := 2488) (by omega) (by omega)
    have e1 : gz h 2468 22 = ga h 2468 22 := ga_gz (c := 2468) (by omega) (by omega)
    have w := w (fun v => bif Nat.beq v 60002 then (ga h 2488 i) else bif Nat.beq v 60004 then (ga h 2468 22) else i) (fun v => bif Nat.beq v 60002 then (ga h 2488 i) else bif Nat.beq v 60004 then (ga h 2468 22) else i) (fun _ _ => rfl) (List.forall_mem_cons.mpr ⟨⟨?_, ?_⟩, List.forall_mem_cons.mpr ⟨⟨?_, ?_⟩, fun _ y => absurd y List.not_mem_nil⟩⟩) (List.forall_mem_cons.mpr ⟨?_, List.forall_mem_cons.mpr ⟨?_, fun _ y => absurd y List.not_mem_nil⟩⟩)
    · have z0 : (0 : Int) ≤ 1 + (1 * (ga h 2488 i) + 0) := w _ (List.mem_cons_self)
      have z1 : (0 : Int) ≤ 1125899906842624 + ((-1) * (ga h 2488 i) + 0) := w _ (List.mem_cons_of_mem _ List.mem_cons_self)
      exact ⟨z0, z1⟩
    · exact (inZA (c := 2488))
    · show gz h (2488 + 0) (0 + (1 * i + 0)) = 0 + (1 * (ga h 2488 i) + 0)
      rw [show (0 + (1 * i + 0) : Int) = i by omega]
      have e0 : gz h (2488 + 0) (i) = (ga h 2488 i) := e0
      omega
    · exact (inZ1 (c := 2468) (j := 22) rfl)
    · show gz h (2468 + 0) (22 + 0) = 0 + (1 * (ga h 2468 22) + 0)
      have e1 : gz h (2468 + 0) (22 + 0) = (ga h 2468 22) := e1
      omega
    · show (0 : Int) ≤ 0 + (1 * i + 0)
      omega
    · show (0 : Int) ≤ (-1) + ((-1) * i + (1 * (ga h 2468 22) + 0))
      omega
  have cX13_l1 : ∀ i : Int, 0 ≤ 0 + (1 * i + 0) → 0 ≤ (-1) + ((-1) * i + (1 * (ga h 2468 22) + 0)) → 0 ≤ (-1) + (1 * (ga h 2486 i) + 0) → 0 ≤ 12 + ((-1) * (ga h 2486 i) + 0) → 0 ≤ (-13) + (1 * (ga h 2487 i) + 0) ∧ 0 ≤ 20 + ((-1) * (ga h 2487 i) + 0) ∧ 0 ≤ (-1125899906842624) + (1 * (ga h 2488 i) + 0) ∧ 0 ≤ 1125899906842624 + ((-1) * (ga h 2488 i) + 0) := fun i g0 g1 g2 g3 => by
    have w := hV zi_X13_l1 (List.mem_of_getElem? (i := 26) rfl)
    unfold zGl at w
    rw [(zG_is (by decide +kernel : (match zG.1 zi_X13_l1 with
      | some x => zBeq x ([60001, 60002, 60003, 60004, 60005], [((2486, 2486, 1, 0), (2486, []), (0, [(60001, 1)]), (0, [(60002, 1)])), ((2487, 2487, 1, 0), (2487, []), (0, [(60001, 1)]), (0, [(60003, 1)])), ((2488, 2488, 1, 0), (2488, []), (0, [(60001, 1)]), (0, [(60005, 1)])), ((2468, 2468, 22, 22), (2468, []), (22, []), (0, [(60004, 1)]))], [(0, [(60001, 1)]), ((-1), [(60001, (-1)), (60004, 1)]), ((-1), [(60002, 1)]), (12, [(60002, (-1))])], [((-13), [(60003, 1)]), (20, [(60003, (-1))]), ((-1125899906842624), [(60005, 1)]), (1125899906842624, [(60005, (-1))])])
      | none => false) = true))] at w
    have e0 : gz h 2486 i = ga h 2486 i := ga_gz (c := 2486) (by omega) (by omega)
    have e1 : gz h 2487 i = ga h 2487 i := ga_gz (c := 2487) (by omega) (by omega)
    have e2 : gz h 2488 i = ga h 2488 i := ga_gz (c := 2488) (by omega) (by omega)
    have e3 : gz h 2468 22 = ga h 2468 22 := ga_gz (c := 2468) (by omega) (by omega)
    have w := w (fun v => bif Nat.beq v 60002 then (ga h 2486 i) else bif Nat.beq v 60003 then (ga h 2487 i) else bif Nat.beq v 60004 then (ga h 2468 22) else bif Nat.beq v 60005 then (ga h 2488 i) else i) (fun v => bif Nat.beq v 60002 then (ga h 2486 i) else bif Nat.beq v 60003 then (ga h 2487 i) else bif Nat.beq v 60004 then (ga h 2468 22) else bif Nat.beq v 60005 then (ga h 2488 i) else i) (fun _ _ => rfl) (List.forall_mem_cons.mpr ⟨⟨?_, ?_⟩, List.forall_mem_cons.mpr ⟨⟨?_, ?_⟩, List.forall_mem_cons.mpr ⟨⟨?_, ?_⟩, List.forall_mem_cons.mpr ⟨⟨?_, ?_⟩, fun _ y => absurd y List.not_mem_nil⟩⟩⟩⟩) (List.forall_mem_cons.mpr ⟨?_, List.forall_mem_cons.mpr ⟨?_, List.forall_mem_cons.mpr ⟨?_, List.forall_mem_cons.mpr ⟨?_, fun _ y => absurd y List.not_mem_nil⟩⟩⟩⟩)
    · have z0 : (0 : Int) ≤ (-13) + (1 * (ga h 2487 i) + 0) := w _ (List.mem_cons_self)
      have z1 : (0 : Int) ≤ 20 + ((-1) * (ga h 2487 i) + 0) := w _ (List.mem_cons_of_mem _ List.mem_cons_self)
      have z2 : (0 : Int) ≤ (-1125899906842624) + (1 * (ga h 2488 i) + 0) := w _ (List.mem_cons_of_mem _ (List.mem_cons_of_mem _ List.mem_cons_self))
      have z3 : (0 : Int) ≤ 1125899906842624 + ((-1) * (ga h 2488 i) + 0) := w _ (List.mem_cons_of_mem _ (List.mem_cons_of_mem _ (List.mem_cons_of_mem _ List.mem_cons_self)))
      exact ⟨z0, z1, z2, z3⟩
    · exact (inZA (c := 2486))
    · show gz h (2486 + 0) (0 + (1 * i + 0)) = 0 + (1 * (ga h 2486 i) + 0)
      rw [show (0 + (1 * i + 0) : Int) = i by omega]
      have e0 : gz h (2486 + 0) (i) = (ga h 2486 i) := e0
      omega
    · exact (inZA (c := 2487))
    · show gz h (2487 + 0) (0 + (1 * i + 0)) = 0 + (1 * (ga h 2487 i) + 0)
      rw [show (0 + (1 * i + 0) : Int) = i by omega]
      have e1 : gz h (2487 + 0) (i) = (ga h 2487 i) := e1
      omega
    · exact (inZA (c := 2488))
    · show gz h (2488 + 0) (0 + (1 * i + 0)) = 0 + (1 * (ga h 2488 i) + 0)
      rw [show (0 + (1 * i + 0) : Int) = i by omega]
      have e2 : gz h (2488 + 0) (i) = (ga h 2488 i) := e2
      omega
    · exact (inZ1 (c := 2468) (j := 22) rfl)
    · show gz h (2468 + 0) (22 + 0) = 0 + (1 * (ga h 2468 22) + 0)
      have e3 : gz h (2468 + 0) (22 + 0) = (ga h 2468 22) := e3
      omega
    · show (0 : Int) ≤ 0 + (1 * i + 0)
      omega
    · show (0 : Int) ≤ (-1) + ((-1) * i + (1 * (ga h 2468 22) + 0))
      omega
    · show (0 : Int) ≤ (-1) + (1 * (ga h 2486 i) + 0)
      omega
    · show (0 : Int) ≤ 12 + ((-1) * (ga h 2486 i) + 0)
      omega
  have cX13_l2 : ∀ i : Int, 0 ≤ 0 + (1 * i + 0) → 0 ≤ (-1) + ((-1) * i + (1 * (ga h 2468 22) + 0)) → 0 ≤ (-13) + (1 * (ga h 2486 i) + 0) → 0 ≤ 20 + ((-1) * (ga h 2486 i) + 0) → 0 ≤ 1000001 + ((-1) * (ga h 2488 i) + 0) := fun i g0 g1 g2 g3 => by
    have w := hV zi_X13_l2 (List.mem_of_getElem? (i := 27) rfl)
    unfold zGl at w
    rw [(zG_is (by decide +kernel : (match zG.1 zi_X13_l2 with
      | some x => zBeq x ([60001, 60002, 60004, 60005], [((2486, 2486, 1, 0), (2486, []), (0, [(60001, 1)]), (0, [(60002, 1)])), ((2488, 2488, 1, 0), (2488, []), (0, [(60001, 1)]), (0, [(60005, 1)])), ((2468, 2468, 22, 22), (2468, []), (22, []), (0, [(60004, 1)]))], [(0, [(60001, 1)]), ((-1), [(60001, (-1)), (60004, 1)]), ((-13), [(60002, 1)]), (20, [(60002, (-1))])], [(1000001, [(60005, (-1))])])
      | none => false) = true))] at w
    have e0 : gz h 2486 i = ga h 2486 i := ga_gz (c := 2486) (by omega) (by omega)
    have e1 : gz h 2488 i = ga h 2488 i := ga_gz (c := 2488) (by omega) (by omega)
    have e2 : gz h 2468 22 = ga h 2468 22 := ga_gz (c := 2468) (by omega) (by omega)
    have w := w (fun v => bif Nat.beq v 60002 then (ga h 2486 i) else bif Nat.beq v 60004 then (ga h 2468 22) else bif Nat.beq v 60005 then (ga h 2488 i) else i) (fun v => bif Nat.beq v 60002 then (ga h 2486 i) else bif Nat.beq v 60004 then (ga h 2468 22) else bif Nat.beq v 60005 then (ga h 2488 i) else i) (fun _ _ => rfl) (List.forall_mem_cons.mpr ⟨⟨?_, ?_⟩, List.forall_mem_cons.mpr ⟨⟨?_, ?_⟩, List.forall_mem_cons.mpr ⟨⟨?_, ?_⟩, fun _ y => absurd y List.not_mem_nil⟩⟩⟩) (List.forall_mem_cons.mpr ⟨?_, List.forall_mem_cons.mpr ⟨?_, List.forall_mem_cons.mpr ⟨?_, List.forall_mem_cons.mpr ⟨?_, fun _ y => absurd y List.not_mem_nil⟩⟩⟩⟩)
    · have z0 : (0 : Int) ≤ 1000001 + ((-1) * (ga h 2488 i) + 0) := w _ (List.mem_cons_self)
      exact z0
    · exact (inZA (c := 2486))
    · show gz h (2486 + 0) (0 + (1 * i + 0)) = 0 + (1 * (ga h 2486 i) + 0)
      rw [show (0 + (1 * i + 0) : Int) = i by omega]
      have e0 : gz h (2486 + 0) (i) = (ga h 2486 i) := e0
      omega
    · exact (inZA (c := 2488))
    · show gz h (2488 + 0) (0 + (1 * i + 0)) = 0 + (1 * (ga h 2488 i) + 0)
      rw [show (0 + (1 * i + 0) : Int) = i by omega]
      have e1 : gz h (2488 + 0) (i) = (ga h 2488 i) := e1
      omega
    · exact (inZ1 (c := 2468) (j := 22) rfl)
    · show gz h (2468 + 0) (22 + 0) = 0 + (1 * (ga h 2468 22) + 0)
      have e2 : gz h (2468 + 0) (22 + 0) = (ga h 2468 22) := e2
      omega
    · show (0 : Int) ≤ 0 + (1 * i + 0)
      omega
    · show (0 : Int) ≤ (-1) + ((-1) * i + (1 * (ga h 2468 22) + 0))
      omega
    · show (0 : Int) ≤ (-13) + (1 * (ga h 2486 i) + 0)
      omega
    · show (0 : Int) ≤ 20 + ((-1) * (ga h 2486 i) + 0)
      omega
  have cX13_l3 : ∀ i : Int, 0 ≤ 0 + (1 * i + ((-1) * (ga h 2468 1) + ((-1) * (ga h 2468 6) + 0))) → 0 ≤ (-1) + ((-1) * i + (1 * (ga h 2468 22) + 0)) → 0 ≤ (-1) + (1 * (ga h 2486 i) + 0) := fun i g0 g1 => by
    have w := hV zi_X13_l3 (List.mem_of_getElem? (i := 28) rfl)
    unfold zGl at w
    rw [(zG_is (by decide +kernel : (match zG.1 zi_X13_l3 with
      | some x => zBeq x ([60001, 60002, 60003, 60004, 60005], [((2486, 2486, 1, 0), (2486, []), (0, [(60001, 1)]), (0, [(60002, 1)])), ((2468, 2468, 1, 1), (2468, []), (1, []), (0, [(60003, 1)])), ((2468, 2468, 6, 6), (2468, []), (6, []), (0, [(60005, 1)])), ((2468, 2468, 22, 22), (2468, []), (22, []), (0, [(60004, 1)]))], [(0, [(60001, 1), (60003, (-1)), (60005, (-1))]), ((-1), [(60001, (-1)), (60004, 1)])], [((-1), [(60002, 1)])])
      | none => false) = true))] at w
    have e0 : gz h 2486 i = ga h 2486 i := ga_gz (c := 2486) (by omega) (by omega)
    have e1 : gz h 2468 1 = ga h 2468 1 := ga_gz (c := 2468) (by omega) (by omega)
    have e2 : gz h 2468 6 = ga h 2468 6 := ga_gz (c := 2468) (by omega) (by omega)
    have e3 : gz h 2468 22 = ga h 2468 22 := ga_gz (c := 2468) (by omega) (by omega)
    have w := w (fun v => bif Nat.beq v 60002 then (ga h 2486 i) else bif Nat.beq v 60003 then (ga h 2468 1) else bif Nat.beq v 60004 then (ga h 2468 22) else bif Nat.beq v 60005 then (ga h 2468 6) else i) (fun v => bif Nat.beq v 60002 then (ga h 2486 i) else bif Nat.beq v 60003 then (ga h 2468 1) else bif Nat.beq v 60004 then (ga h 2468 22) else bif Nat.beq v 60005 then (ga h 2468 6) else i) (fun _ _ => rfl) (List.forall_mem_cons.mpr ⟨⟨?_, ?_⟩, List.forall_mem_cons.mpr ⟨⟨?_, ?_⟩, List.forall_mem_cons.mpr ⟨⟨?_, ?_⟩, List.forall_mem_cons.mpr ⟨⟨?_, ?_⟩, fun _ y => absurd y List.not_mem_nil⟩⟩⟩⟩) (List.forall_mem_cons.mpr ⟨?_, List.forall_mem_cons.mpr ⟨?_, fun _ y => absurd y List.not_mem_nil⟩⟩)
    · have z0 : (0 : Int) ≤ (-1) + (1 * (ga h 2486 i) + 0) := w _ (List.mem_cons_self)
      exact z0
    · exact (inZA (c := 2486))
    · show gz h (2486 + 0) (0 + (1 * i + 0)) = 0 + (1 * (ga h 2486 i) + 0)
      rw [show (0 + (1 * i + 0) : Int) = i by omega]
      have e0 : gz h (2486 + 0) (i) = (ga h 2486 i) := e0
      omega
    · exact (inZ1 (c := 2468) (j := 1) rfl)
    · show gz h (2468 + 0) (1 + 0) = 0 + (1 * (ga h 2468 1) + 0)
      have e1 : gz h (2468 + 0) (1 + 0) = (ga h 2468 1) := e1
      omega
    · exact (inZ1 (c := 2468) (j := 6) rfl)
    · show gz h (2468 + 0) (6 + 0) = 0 + (1 * (ga h 2468 6) + 0)
      have e2 : gz h (2468 + 0) (6 + 0) = (ga h 2468 6) := e2
      omega
    · exact (inZ1 (c := 2468) (j := 22) rfl)
    · show gz h (2468 + 0) (22 + 0) = 0 + (1 * (ga h 2468 22) + 0)
      have e3 : gz h (2468 + 0) (22 + 0) = (ga h 2468 22) := e3
      omega
    · show (0 : Int) ≤ 0 + (1 * i + ((-1) * (ga h 2468 1) + ((-1) * (ga h 2468 6) + 0)))
      omega
    · show (0 : Int) ≤ (-1) + ((-1) * i + (1 * (ga h 2468 22) + 0))
      omega
  have cX13_ld : ∀ i : Int, 0 ≤ 0 + (1 * i + 0) → 0 ≤ (-1) + ((-1) * i + (1 * (ga h 2468 22) + 0)) → 0 ≤ 0 + (1 * (ga h 2491 i) + 0) ∧ 0 ≤ 0 + ((-1) * (ga h 2491 i) + 0) := fun i g0 g1 => by
    have w := hV zi_X13_ld (List.mem_of_getElem? (i := 29) rfl)
    unfold zGl at w
    rw [(zG_is (by decide +kernel : (match zG.1 zi_X13_ld with
      | some x => zBeq x ([60001, 60002, 60004], [((2491, 2491, 1, 0), (2491, []), (0, [(60001, 1)]), (0, [(60002, 1)])), ((2468, 2468, 22, 22), (2468, []), (22, []), (0, [(60004, 1)]))], [(0, [(60001, 1)]), ((-1), [(60001, (-1)), (60004, 1)])], [(0, [(60002, 1)]), (0, [(60002, (-1))])])
      | none => false) = true))] at w
    have e0 : gz h 2491 i = ga h 2491 i := ga_gz (c := 2491) (by omega) (by omega)
    have e1 : gz h 2468 22 = ga h 2468 22 := ga_gz (c := 2468) (by omega) (by omega)
    have w := w (fun v => bif Nat.beq v 60002 then (ga h 2491 i) else bif Nat.beq v 60004 then (ga h 2468 22) else i) (fun v => bif Nat.beq v 60002 then (ga h 2491 i) else bif Nat.beq v 60004 then (ga h 2468 22) else i) (fun _ _ => rfl) (List.forall_mem_cons.mpr ⟨⟨?_, ?_⟩, List.forall_mem_cons.mpr ⟨⟨?_, ?_⟩, fun _ y => absurd y List.not_mem_nil⟩⟩) (List.forall_mem_cons.mpr ⟨?_, List.forall_mem_cons.mpr ⟨?_, fun _ y => absurd y List.not_mem_nil⟩⟩)
    · have z0 : (0 : Int) ≤ 0 + (1 * (ga h 2491 i) + 0) := w _ (List.mem_cons_self)
      have z1 : (0 : Int) ≤ 0 + ((-1) * (ga h 2491 i) + 0) := w _ (List.mem_cons_of_mem _ List.mem_cons_self)
      exact ⟨z0, z1⟩
    · exact (inZA (c := 2491))
    · show gz h (2491 + 0) (0 + (1 * i + 0)) = 0 + (1 * (ga h 2491 i) + 0)
      rw [show (0 + (1 * i + 0) : Int) = i by omega]
      have e0 : gz h (2491 + 0) (i) = (ga h 2491 i) := e0
      omega
    · exact (inZ1 (c := 2468) (j := 22) rfl)
    · show gz h (2468 + 0) (22 + 0) = 0 + (1 * (ga h 2468 22) + 0)
      have e1 : gz h (2468 + 0) (22 + 0) = (ga h 2468 22) := e1
      omega
    · show (0 : Int) ≤ 0 + (1 * i + 0)
      omega
    · show (0 : Int) ≤ (-1) + ((-1) * i + (1 * (ga h 2468 22) + 0))
      omega
  have ld : LD13 h := hV 4 (List.mem_of_getElem? (i := 30) rfl)
  have nr : NR13 (N13 h (-1)) := ⟨by show 0 ≤ ga h 2468 22 ∧ ga h 2468 22 ≤ 140; omega, fun e e0 e1 => by
    have e1 : e < ga h 2468 22 := e1
    have a := cX13_a_begin e (by omega) (by omega)
    have b := cX13_a_finish e (by omega) (by omega)
    have d := cX13_lp e (by omega) (by omega)
    show (0 ≤ ga h 2486 e ∧ ga h 2486 e ≤ 33) ∧ (0 ≤ ga h 2487 e ∧ ga h 2487 e ≤ 33) ∧ 0 ≤ ga h 2489 e ∧ ga h 2489 e ≤ 300000
    omega⟩
  obtain ⟨l1, nb, ⟨π, pv⟩, xf⟩ := ld
  have ar : AR13 h := fun e e0 e1 => by
    have a := cX13_lb e (by omega) (by omega)
    refine ⟨by omega, fun b0 b1 => ?_, fun b0 b1 => ?_⟩
    · have b := cX13_l1 e (by omega) (by omega) (by omega) (by omega)
      omega
    · have b := cX13_l2 e (by omega) (by omega) (by omega) (by omega)
      omega
  have mv : ∀ e : Int, ga h 2468 1 + ga h 2468 6 ≤ e → e < ga h 2468 22 → 1 ≤ ga h 2486 e := fun e e0 e1 => by
    have a := cX13_l3 e (by omega) (by omega)
    omega
  have dz : ∀ g : Int, 0 ≤ g → g < ga h 2468 22 → ga h 2491 g = 0 := fun e e0 e1 => by
    have a := cX13_ld e (by omega) (by omega)
    omega
  have by0 : BY13 h := fun v v0 v1 => by
    have a := cX13_a_by v (by omega) (by omega)
    omega
  refine MCal.mono (fun o h' w => ?_) (h_X13_firstOfAll (h := h) nr ar nb pv xf (by omega) mv dz by0 (str_of (by decide +kernel) st))
  obtain ⟨o1, oo, nb', byh⟩ := w
  have F : Frm (kMd ct_X13_firstOfAll) h h' := by
    refine frm_only oo fun c hc j n => ?_
    simp only [List.mem_cons, List.not_mem_nil, or_false] at hc
    rcases hc with rfl | rfl | rfl | rfl <;> first | exact absurd inZA (n _ (List.mem_of_getElem? (i := 0) rfl)) | exact absurd inZA (n _ (List.mem_of_getElem? (i := 1) rfl)) | exact absurd inZA (n _ (List.mem_of_getElem? (i := 2) rfl)) | exact absurd inZA (n _ (List.mem_of_getElem? (i := 3) rfl))
  have S : StrZ zT h' := by
    refine strz_only st oo (fun c hc j n => ?_) (fun c hc => ?_)
    · simp only [List.mem_cons, List.not_mem_nil, or_false] at hc
      rcases hc with rfl | rfl | rfl | rfl <;> exact absurd rfl n
    · simp only [List.mem_cons, List.not_mem_nil, or_false] at hc
      rcases hc with rfl | rfl | rfl | rfl <;> rfl
  have dX13_a_by : ∀ i : Int, 0 ≤ 0 + (1 * i + 0) → 0 ≤ 33 + ((-1) * i + 0) → 0 ≤ 140 + (1 * (ga h' 2493 i) + 0) ∧ 0 ≤ 140 + ((-1) * (ga h' 2493 i) + 0) := fun i i0 i1 => by
    have a := byh i (by omega) (by omega)
    omega
  have tX13_a_by : zGl zG zi_X13_a_by h' := by
    unfold zGl
    rw [(zG_is (by decide +kernel : (match zG.1 zi_X13_a_by with
      | some x => zBeq x ([60001, 60002], [((2493, 2493, 1, 0), (2493, []), (0, [(60001, 1)]), (0, [(60002, 1)]))], [(0, [(60001, 1)]), (33, [(60001, (-1))])], [(140, [(60002, 1)]), (140, [(60002, (-1))])])
      | none => false) = true))]
    intro ρ β _ hE hG c hc
    have g0 : (0 : Int) ≤ 0 + (1 * β 60001 + 0) := hG _ (List.mem_cons_self)
    have g1 : (0 : Int) ≤ 33 + ((-1) * β 60001 + 0) := hG _ (List.mem_cons_of_mem _ List.mem_cons_self)
    have w0 : gz h' (2493 + 0) (0 + (1 * β 60001 + 0)) = 0 + (1 * β 60002 + 0) := (hE _ (List.mem_cons_self)).2
    rw [show (0 + (1 * β 60001 + 0) : Int) = β 60001 by omega] at w0
    have e0 : gz h' (2493 + 0) (β 60001) = ga h' 2493 (β 60001) := ga_gz (c := 2493) (i := β 60001) (by omega) (by omega)
    have e0 : β 60002 = ga h' 2493 (β 60001) := by have w : gz h' (2493 + 0) (β 60001) = 0 + (1 * β 60002 + 0) := w0; omega
    have d := dX13_a_by (β 60001) (by omega) (by omega)
    simp only [List.mem_cons, List.not_mem_nil, or_false] at hc
    rcases hc with rfl | rfl
    · show (0 : Int) ≤ 140 + (1 * β 60002 + 0)
      omega
    · show (0 : Int) ≤ 140 + ((-1) * β 60002 + 0)
      omega
  refine ⟨ρ, fun _ _ => rfl, o1, S, F, fun _ y => absurd y List.not_mem_nil, fun _ y => absurd y List.not_mem_nil, fun _ y => absurd y List.not_mem_nil, List.forall_mem_cons.mpr ⟨tX13_a_by, fun _ y => absurd y List.not_mem_nil⟩, fun _ y => absurd y List.not_mem_nil⟩
