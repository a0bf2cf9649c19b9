/-! an effect cut off: the contract -/
def ct_X9_wholeEffect : ZCt := (344, [(2, (503, [])), (0, (0, [(0, 1)])), (0, (0, [(1, 1)]))], [], [], [zi_X9b_kd, zi_X9b_ka, zi_X9b_rf, zi_X9b_ln0, zi_X9b_ln1, zi_X9b_lnx, zi_X9b_len, zi_X9b_sg, zi_X9b_lb, zi_X9b_top0, zi_X9b_top1, zi_X9_f_corners, zi_X9_f_trains, zi_X9_f_lanes, zi_X9_f_cases, zi_X9_f_signs, zi_X9_a_axles, zi_X9_r_corner0, zi_X9_r_corner1, zi_X9_r_corner2, zi_X9_at, zi_X9_bh, zi_X9_q_load, zi_X9_r_gap0, zi_X9_r_gap1, zi_X9_p6, zi_X9_r_lane0, zi_X9_r_lane1], [(503, 503, 18, 18), (557, 557, 1, 0), (562, 617, 0, 1099511627775)], some (1, 200), [], [], [], [zi_X9b_rf, zi_X9b_len, zi_X9b_sg, zi_X9b_lb, zi_X9b_top0, zi_X9b_top1], [], [], 0, 0, [])
set_option maxRecDepth 100000 in
set_option maxHeartbeats 4000000 in
theorem ok_X9_wholeEffect : CtOk zG zT ct_X9_wholeEffect := by
  refine ⟨by decide +kernel, fun q hq ρ h st hE hF hV _ => ?_⟩
  cases (show some ((KX9_wholeEffect, yX9_wholeEffect, 9, 2, 0) : MR) = some q from hq)
  have eA : ((kA ct_X9_wholeEffect).map fun q => (q.1, zv ρ q.2) : List MV) = [(2, ((503 : Nat) : Int)), (0, ρ 0), (0, ρ 1)] := by
    show ([(2, 503 + 0), (0, 0 + (1 * ρ 0 + 0)), (0, 0 + (1 * ρ 1 + 0))] : List MV) = _
    simp only [Int.add_zero, Int.zero_add, Int.one_mul]
    rfl
  show MCal KX9_wholeEffect yX9_wholeEffect _ _ _ h _
  rw [eA]
  have fb := FBX9.of st (hV zi_X9b_len (List.mem_of_getElem? (i := 6) rfl)) (hV zi_X9b_sg (List.mem_of_getElem? (i := 7) rfl)) (hV zi_X9b_lb (List.mem_of_getElem? (i := 8) rfl)) (hV zi_X9b_top0 (List.mem_of_getElem? (i := 9) rfl)) (hV zi_X9b_top1 (List.mem_of_getElem? (i := 10) rfl))
  have k := ok_X9_tellEffect.2 _ rfl (fun v => if v = 50 then gz h 503 18 else ρ v) h st (List.forall_mem_cons.mpr ⟨rfl, fun _ y => absurd y List.not_mem_nil⟩) (fun _ y => absurd y List.not_mem_nil) hV (fun _ y => absurd y List.not_mem_nil)
  have eB : ((kA ct_X9_tellEffect).map fun q => (q.1, zv (fun v => if v = 50 then gz h 503 18 else ρ v) q.2) : List MV) = [(2, ((503 : Nat) : Int)), (0, ρ 0), (0, ρ 1)] := by
    show ([(2, 503 + 0), (0, 0 + (1 * ρ 0 + 0)), (0, 0 + (1 * ρ 1 + 0))] : List MV) = _
    simp only [Int.add_zero, Int.zero_add, Int.one_mul]
    rfl
  rw [eB] at k
  have k : MCal KX9_tellEffect yX9_tellEffect 0 0 [(2, ((503 : Nat) : Int)), (0, ρ 0), (0, ρ 1)] h (Qct zG zT ct_X9_tellEffect (fun v => if v = 50 then gz h 503 18 else ρ v) h) := k
  have tell : MCal KX9_tellEffect yX9_tellEffect 0 0 [(2, ((503 : Nat) : Int)), (0, ρ 0), (0, ρ 1)] h (mRI fun _ h' => WR h h') := MCal.mono (fun o h' w => by
    obtain ⟨ρ', e1, e2, e3, e4, e5, e6, e7, e8, e9⟩ := w
    have e2 : o.1 = 1 ∧ o.2 = (0, ρ' 200) := e2
    refine ⟨e2.1, by rw [e2.2], e3, e4, ?_⟩
    exact FBX9.of e3 (e8 _ (List.mem_of_getElem? (i := 1) rfl)) (e8 _ (List.mem_of_getElem? (i := 2) rfl)) (e8 _ (List.mem_of_getElem? (i := 3) rfl)) (e8 _ (List.mem_of_getElem? (i := 4) rfl)) (e8 _ (List.mem_of_getElem? (i := 5) rfl))) k
  refine MCal.mono (fun o h' w => ?_) (h_X9_wholeEffect (h := h) ⟨st, Frm.refl _ _, fb⟩ tell)
  obtain ⟨o1, o2, S, F, fb2⟩ := w
  exact ⟨fun v => if v < 200 then ρ v else o.2.2, by exact fun v hv => if_pos (bltN (List.all_eq_true.mp (show (cAv ct_X9_wholeEffect).all (fun v => Nat.blt v 200) = true by decide +kernel) v (zmem_of hv))), ⟨o1, Prod.ext o2 rfl⟩, S, F, fun _ y => absurd y List.not_mem_nil, fun _ y => absurd y List.not_mem_nil, fun _ y => absurd y List.not_mem_nil, List.forall_mem_cons.mpr ⟨out_X9b_rf S fb2, List.forall_mem_cons.mpr ⟨out_X9b_len S fb2, List.forall_mem_cons.mpr ⟨out_X9b_sg S fb2, List.forall_mem_cons.mpr ⟨out_X9b_lb S fb2, List.forall_mem_cons.mpr ⟨out_X9b_top0 S fb2, List.forall_mem_cons.mpr ⟨out_X9b_top1 S fb2, fun _ y => absurd y List.not_mem_nil⟩⟩⟩⟩⟩⟩, fun _ y => absurd y List.not_mem_nil⟩
