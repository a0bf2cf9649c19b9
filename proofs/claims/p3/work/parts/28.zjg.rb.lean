/-! from the walks by hand to the contracts: X0, what is read -/
theorem out_X0_r_size0 {h : MH} (d : ∀ b : Int, 0 ≤ b → b < 3 → 1 ≤ ga h (sR b) 0 ∧ ga h (sR b) 0 ≤ 12) : zGl zG zi_X0_r_size0 h := by
  unfold zGl
  rw [(zG_is (by decide +kernel : (match zG.1 zi_X0_r_size0 with
      | some x => zBeq x ([60001, 60002], [((163, 165, 1, 0), (163, [(60001, 1)]), (0, []), (0, [(60002, 1)]))], [(0, [(60001, 1)]), (2, [(60001, (-1))])], [((-1), [(60002, 1)]), (12, [(60002, (-1))])])
      | none => false) = true))]
  intro ρ β _ hE hG c hc
  have g0 : (0 : Int) ≤ 0 + (1 * β 60001 + 0) := hG _ (List.mem_cons_self)
  have g1 : (0 : Int) ≤ 2 + ((-1) * β 60001 + 0) := hG _ (List.mem_cons_of_mem _ List.mem_cons_self)
  have w0 : gz h (163 + (1 * β 60001 + 0)) (0 + 0) = 0 + (1 * β 60002 + 0) := (hE _ (List.mem_cons_self)).2
  rw [show (163 + (1 * β 60001 + 0) : Int) = ((sR (β 60001) : Nat) : Int) by unfold sR; omega, show (0 + 0 : Int) = 0 by decide, ga_gz (c := sR (β 60001)) (i := 0) (by decide) (by decide)] at w0
  have q := d (β 60001) (by omega) (by omega)
  simp only [List.mem_cons, List.not_mem_nil, or_false] at hc
  rcases hc with rfl | rfl
  · show (0 : Int) ≤ -1 + (1 * β 60002 + 0)
    omega
  · show (0 : Int) ≤ 12 + ((-1) * β 60002 + 0)
    omega
theorem out_X0_r_size1 {h : MH} (d : ∀ b : Int, 0 ≤ b → b < 3 → 1 ≤ ga h (sR b) 1 ∧ ga h (sR b) 1 ≤ 12) : zGl zG zi_X0_r_size1 h := by
  unfold zGl
  rw [(zG_is (by decide +kernel : (match zG.1 zi_X0_r_size1 with
      | some x => zBeq x ([60001, 60002], [((163, 165, 1, 0), (163, [(60001, 1)]), (1, []), (0, [(60002, 1)]))], [(0, [(60001, 1)]), (2, [(60001, (-1))])], [((-1), [(60002, 1)]), (12, [(60002, (-1))])])
      | none => false) = true))]
  intro ρ β _ hE hG c hc
  have g0 : (0 : Int) ≤ 0 + (1 * β 60001 + 0) := hG _ (List.mem_cons_self)
  have g1 : (0 : Int) ≤ 2 + ((-1) * β 60001 + 0) := hG _ (List.mem_cons_of_mem _ List.mem_cons_self)
  have w0 : gz h (163 + (1 * β 60001 + 0)) (1 + 0) = 0 + (1 * β 60002 + 0) := (hE _ (List.mem_cons_self)).2
  rw [show (163 + (1 * β 60001 + 0) : Int) = ((sR (β 60001) : Nat) : Int) by unfold sR; omega, show (1 + 0 : Int) = 1 by decide, ga_gz (c := sR (β 60001)) (i := 1) (by decide) (by decide)] at w0
  have q := d (β 60001) (by omega) (by omega)
  simp only [List.mem_cons, List.not_mem_nil, or_false] at hc
  rcases hc with rfl | rfl
  · show (0 : Int) ≤ -1 + (1 * β 60002 + 0)
    omega
  · show (0 : Int) ≤ 12 + ((-1) * β 60002 + 0)
    omega
def ct_X0_read : ZCt := (8, [(2, (161, []))], [], [], [zi_X0b_kd, zi_X0b_ka, zi_X0b_rf, zi_X0b_ln0, zi_X0b_ln1, zi_X0b_ln2, zi_X0b_ln3, zi_X0b_lnx, zi_X0b_len, zi_X0b_sg, zi_X0b_lb, zi_X0b_top0, zi_X0b_top1, zi_X0_f_beams, zi_X0_f_rows, zi_X0_f_signs, zi_X0_f_free, zi_X0_r_size0, zi_X0_r_size1, zi_X0_a_moveOf, zi_X0_a_settled, zi_X0_r_row0, zi_X0_r_row1, zi_X0_r_row2, zi_X0_rw], [(161, 161, 0, 0), (161, 161, 6, 6), (161, 161, 8, 8), (161, 161, 9, 9), (163, 165, 1, 0), (166, 166, 1, 0), (167, 167, 1, 0), (168, 168, 1, 0)], some (1, 200), [], [], [], [zi_X0_f_beams, zi_X0_f_rows, zi_X0_f_signs, zi_X0_r_size0, zi_X0_r_size1, zi_X0_a_settled], [], [], 0, 0, [])
set_option maxRecDepth 100000 in
set_option maxHeartbeats 4000000 in
theorem ok_X0_read : CtOk zG zT ct_X0_read := by
  refine ⟨by decide +kernel, fun q hq ρ h st hE hF hV _ => ?_⟩
  cases (show some ((KX0_read, yX0_read, 0, 0, 0) : MR) = some q from hq)
  have eA : ((kA ct_X0_read).map fun q => (q.1, zv ρ q.2) : List MV) = [(2, ((161 : Nat) : Int))] := by
    show ([(2, 161 + 0)] : List MV) = _
    simp only [Int.add_zero, Int.zero_add, Int.one_mul]
    rfl
  show MCal KX0_read yX0_read _ _ _ h _
  rw [eA]
  have cX0_f_beams : 0 ≤ (-1) + (1 * (ga h 161 0) + 0) ∧ 0 ≤ 3 + ((-1) * (ga h 161 0) + 0) := by
    have w := hV zi_X0_f_beams (List.mem_of_getElem? (i := 13) rfl)
    unfold zGl at w
    rw [(zG_is (by decide +kernel : (match zG.1 zi_X0_f_beams with
      | some x => zBeq x ([60001], [((161, 161, 0, 0), (161, []), (0, []), (0, [(60001, 1)]))], [], [((-1), [(60001, 1)]), (3, [(60001, (-1))])])
      | none => false) = true))] at w
    have e0 : gz h 161 0 = ga h 161 0 := ga_gz (c := 161) (by omega) (by omega)
    have w := w (fun v =>  (ga h 161 0)) (fun v =>  (ga h 161 0)) (fun _ _ => rfl) (List.forall_mem_cons.mpr ⟨⟨?_, ?_⟩, fun _ y => absurd y List.not_mem_nil⟩) (fun _ y => absurd y List.not_mem_nil)
    · have z0 : (0 : Int) ≤ (-1) + (1 * (ga h 161 0) + 0) := w _ (List.mem_cons_self)
      have z1 : (0 : Int) ≤ 3 + ((-1) * (ga h 161 0) + 0) := w _ (List.mem_cons_of_mem _ List.mem_cons_self)
      exact ⟨z0, z1⟩
    · exact (inZ1 (c := 161) (j := 0) rfl)
    · show gz h (161 + 0) (0 + 0) = 0 + (1 * (ga h 161 0) + 0)
      have e0 : gz h (161 + 0) (0 + 0) = (ga h 161 0) := e0
      omega
  have cX0_f_rows : 0 ≤ 0 + (1 * (ga h 161 6) + 0) ∧ 0 ≤ 8 + ((-1) * (ga h 161 6) + 0) := by
    have w := hV zi_X0_f_rows (List.mem_of_getElem? (i := 14) rfl)
    unfold zGl at w
    rw [(zG_is (by decide +kernel : (match zG.1 zi_X0_f_rows with
      | some x => zBeq x ([60001], [((161, 161, 6, 6), (161, []), (6, []), (0, [(60001, 1)]))], [], [(0, [(60001, 1)]), (8, [(60001, (-1))])])
      | none => false) = true))] at w
    have e0 : gz h 161 6 = ga h 161 6 := ga_gz (c := 161) (by omega) (by omega)
    have w := w (fun v =>  (ga h 161 6)) (fun v =>  (ga h 161 6)) (fun _ _ => rfl) (List.forall_mem_cons.mpr ⟨⟨?_, ?_⟩, fun _ y => absurd y List.not_mem_nil⟩) (fun _ y => absurd y List.not_mem_nil)
    · have z0 : (0 : Int) ≤ 0 + (1 * (ga h 161 6) + 0) := w _ (List.mem_cons_self)
      have z1 : (0 : Int) ≤ 8 + ((-1) * (ga h 161 6) + 0) := w _ (List.mem_cons_of_mem _ List.mem_cons_self)
      exact ⟨z0, z1⟩
    · exact (inZ1 (c := 161) (j := 6) rfl)
    · show gz h (161 + 0) (6 + 0) = 0 + (1 * (ga h 161 6) + 0)
      have e0 : gz h (161 + 0) (6 + 0) = (ga h 161 6) := e0
      omega
  have cX0_f_signs : 0 ≤ 0 + (1 * (ga h 161 8) + 0) ∧ 0 ≤ 50 + ((-1) * (ga h 161 8) + 0) := by
    have w := hV zi_X0_f_signs (List.mem_of_getElem? (i := 15) rfl)
    unfold zGl at w
    rw [(zG_is (by decide +kernel : (match zG.1 zi_X0_f_signs with
      | some x => zBeq x ([60001], [((161, 161, 8, 8), (161, []), (8, []), (0, [(60001, 1)]))], [], [(0, [(60001, 1)]), (50, [(60001, (-1))])])
      | none => false) = true))] at w
    have e0 : gz h 161 8 = ga h 161 8 := ga_gz (c := 161) (by omega) (by omega)
    have w := w (fun v =>  (ga h 161 8)) (fun v =>  (ga h 161 8)) (fun _ _ => rfl) (List.forall_mem_cons.mpr ⟨⟨?_, ?_⟩, fun _ y => absurd y List.not_mem_nil⟩) (fun _ y => absurd y List.not_mem_nil)
    · have z0 : (0 : Int) ≤ 0 + (1 * (ga h 161 8) + 0) := w _ (List.mem_cons_self)
      have z1 : (0 : Int) ≤ 50 + ((-1) * (ga h 161 8) + 0) := w _ (List.mem_cons_of_mem _ List.mem_cons_self)
      exact ⟨z0, z1⟩
    · exact (inZ1 (c := 161) (j := 8) rfl)
    · show gz h (161 + 0) (8 + 0) = 0 + (1 * (ga h 161 8) + 0)
      have e0 : gz h (161 + 0) (8 + 0) = (ga h 161 8) := e0
      omega
  have cX0_a_settled : ∀ i : Int, 0 ≤ 0 + (1 * i + 0) → 0 ≤ 3 + ((-1) * i + 0) → 0 ≤ 1000 + (1 * (ga h 168 i) + 0) ∧ 0 ≤ 1000 + ((-1) * (ga h 168 i) + 0) := fun i g0 g1 => by
    have w := hV zi_X0_a_settled (List.mem_of_getElem? (i := 20) rfl)
    unfold zGl at w
    rw [(zG_is (by decide +kernel : (match zG.1 zi_X0_a_settled with
      | some x => zBeq x ([60001, 60002], [((168, 168, 1, 0), (168, []), (0, [(60001, 1)]), (0, [(60002, 1)]))], [(0, [(60001, 1)]), (3, [(60001, (-1))])], [(1000, [(60002, 1)]), (1000, [(60002, (-1))])])
      | none => false) = true))] at w
    have e0 : gz h 168 i = ga h 168 i := ga_gz (c := 168) (by omega) (by omega)
    have w := w (fun v => bif Nat.beq v 60002 then (ga h 168 i) else i) (fun v => bif Nat.beq v 60002 then (ga h 168 i) else i) (fun _ _ => rfl) (List.forall_mem_cons.mpr ⟨⟨?_, ?_⟩, fun _ y => absurd y List.not_mem_nil⟩) (List.forall_mem_cons.mpr ⟨?_, List.forall_mem_cons.mpr ⟨?_, fun _ y => absurd y List.not_mem_nil⟩⟩)
    · have z0 : (0 : Int) ≤ 1000 + (1 * (ga h 168 i) + 0) := w _ (List.mem_cons_self)
      have z1 : (0 : Int) ≤ 1000 + ((-1) * (ga h 168 i) + 0) := w _ (List.mem_cons_of_mem _ List.mem_cons_self)
      exact ⟨z0, z1⟩
    · exact (inZA (c := 168))
    · show gz h (168 + 0) (0 + (1 * i + 0)) = 0 + (1 * (ga h 168 i) + 0)
      rw [show (0 + (1 * i + 0) : Int) = i by omega]
      have e0 : gz h (168 + 0) (i) = (ga h 168 i) := e0
      omega
    · show (0 : Int) ≤ 0 + (1 * i + 0)
      omega
    · show (0 : Int) ≤ 3 + ((-1) * i + 0)
      omega
  have s0 := in_X0_r_size0 st (hV zi_X0_r_size0 (List.mem_of_getElem? (i := 17) rfl))
  have s1 := in_X0_r_size1 st (hV zi_X0_r_size1 (List.mem_of_getElem? (i := 18) rfl))
  refine MCal.mono (fun o h' w => ?_) (h_X0_read (h := h) (by omega) (by omega) (by omega) (fun b b0 b1 => ⟨s0 b b0 b1, s1 b b0 b1⟩) (fun j a b => by have := cX0_a_settled j (by omega) (by omega); omega) st)
  obtain ⟨o1, o2, S, oo, ff, zz, ss, bb, rr, g8⟩ := w
  have F : Frm (kMd ct_X0_read) h h' := by
    refine frm_only2 oo fun c hc j jb n => ?_
    rcases mem_tCs.mp hc with rfl | q
    · have w : ∀ (i : Nat) (k : Nat), (kMd ct_X0_read)[i]? = some (161, 161, k, k) → j ≠ k := fun i k e z => n _ (List.mem_of_getElem? e) (by rw [z]; exact inZ1 (c := 161) (j := k) rfl)
      exact ff (j : Int) (by omega) (by have := w 0 0 rfl; omega) (by have := w 1 6 rfl; omega) (by have := w 2 8 rfl; omega) (by have := w 3 9 rfl; omega)
    · exfalso
      by_cases q2 : c ≤ 165
      · exact n _ (List.mem_of_getElem? (i := 4) rfl) (inP (by omega) q2)
      · rcases (show c = 166 ∨ c = 167 ∨ c = 168 by omega) with rfl | rfl | rfl
        · exact n _ (List.mem_of_getElem? (i := 5) rfl) (inP (by decide) (by decide))
        · exact n _ (List.mem_of_getElem? (i := 6) rfl) (inP (by decide) (by decide))
        · exact n _ (List.mem_of_getElem? (i := 7) rfl) (inP (by decide) (by decide))
  have dX0_f_beams : 0 ≤ (-1) + (1 * (ga h' 161 0) + 0) ∧ 0 ≤ 3 + ((-1) * (ga h' 161 0) + 0) := by omega
  have tX0_f_beams : zGl zG zi_X0_f_beams h' := by
    unfold zGl
    rw [(zG_is (by decide +kernel : (match zG.1 zi_X0_f_beams with
      | some x => zBeq x ([60001], [((161, 161, 0, 0), (161, []), (0, []), (0, [(60001, 1)]))], [], [((-1), [(60001, 1)]), (3, [(60001, (-1))])])
      | none => false) = true))]
    intro ρ β _ hE hG c hc
    have w0 : gz h' (161 + 0) (0 + 0) = 0 + (1 * β 60001 + 0) := (hE _ (List.mem_cons_self)).2
    have w0 : gz h' 161 0 = 0 + (1 * β 60001 + 0) := w0
    have e0 : gz h' (161 + 0) (0) = ga h' 161 (0) := ga_gz (c := 161) (i := 0) (by omega) (by omega)
    have e0 : β 60001 = ga h' 161 (0) := by have w : gz h' (161 + 0) (0) = 0 + (1 * β 60001 + 0) := w0; omega
    have d := dX0_f_beams  
    simp only [List.mem_cons, List.not_mem_nil, or_false] at hc
    rcases hc with rfl | rfl
    · show (0 : Int) ≤ (-1) + (1 * β 60001 + 0)
      omega
    · show (0 : Int) ≤ 3 + ((-1) * β 60001 + 0)
      omega
  have dX0_f_rows : 0 ≤ 0 + (1 * (ga h' 161 6) + 0) ∧ 0 ≤ 8 + ((-1) * (ga h' 161 6) + 0) := by omega
  have tX0_f_rows : zGl zG zi_X0_f_rows h' := by
    unfold zGl
    rw [(zG_is (by decide +kernel : (match zG.1 zi_X0_f_rows with
      | some x => zBeq x ([60001], [((161, 161, 6, 6), (161, []), (6, []), (0, [(60001, 1)]))], [], [(0, [(60001, 1)]), (8, [(60001, (-1))])])
      | none => false) = true))]
    intro ρ β _ hE hG c hc
    have w0 : gz h' (161 + 0) (6 + 0) = 0 + (1 * β 60001 + 0) := (hE _ (List.mem_cons_self)).2
    have w0 : gz h' 161 6 = 0 + (1 * β 60001 + 0) := w0
    have e0 : gz h' (161 + 0) (6) = ga h' 161 (6) := ga_gz (c := 161) (i := 6) (by omega) (by omega)
    have e0 : β 60001 = ga h' 161 (6) := by have w : gz h' (161 + 0) (6) = 0 + (1 * β 60001 + 0) := w0; omega
    have d := dX0_f_rows  
    simp only [List.mem_cons, List.not_mem_nil, or_false] at hc
    rcases hc with rfl | rfl
    · show (0 : Int) ≤ 0 + (1 * β 60001 + 0)
      omega
    · show (0 : Int) ≤ 8 + ((-1) * β 60001 + 0)
      omega
  have dX0_f_signs : 0 ≤ 0 + (1 * (ga h' 161 8) + 0) ∧ 0 ≤ 50 + ((-1) * (ga h' 161 8) + 0) := by omega
  have tX0_f_signs : zGl zG zi_X0_f_signs h' := by
    unfold zGl
    rw [(zG_is (by decide +kernel : (match zG.1 zi_X0_f_signs with
      | some x => zBeq x ([60001], [((161, 161, 8, 8), (161, []), (8, []), (0, [(60001, 1)]))], [], [(0, [(60001, 1)]), (50, [(60001, (-1))])])
      | none => false) = true))]
    intro ρ β _ hE hG c hc
    have w0 : gz h' (161 + 0) (8 + 0) = 0 + (1 * β 60001 + 0) := (hE _ (List.mem_cons_self)).2
    have w0 : gz h' 161 8 = 0 + (1 * β 60001 + 0) := w0
    have e0 : gz h' (161 + 0) (8) = ga h' 161 (8) := ga_gz (c := 161) (i := 8) (by omega) (by omega)
    have e0 : β 60001 = ga h' 161 (8) := by have w : gz h' (161 + 0) (8) = 0 + (1 * β 60001 + 0) := w0; omega
    have d := dX0_f_signs  
    simp only [List.mem_cons, List.not_mem_nil, or_false] at hc
    rcases hc with rfl | rfl
    · show (0 : Int) ≤ 0 + (1 * β 60001 + 0)
      omega
    · show (0 : Int) ≤ 50 + ((-1) * β 60001 + 0)
      omega
  have dX0_a_settled : ∀ i : Int, 0 ≤ 0 + (1 * i + 0) → 0 ≤ 3 + ((-1) * i + 0) → 0 ≤ 1000 + (1 * (ga h' 168 i) + 0) ∧ 0 ≤ 1000 + ((-1) * (ga h' 168 i) + 0) := fun i g0 g1 => by have := ss i (by omega) (by omega); omega
  have tX0_a_settled : zGl zG zi_X0_a_settled h' := by
    unfold zGl
    rw [(zG_is (by decide +kernel : (match zG.1 zi_X0_a_settled with
      | some x => zBeq x ([60001, 60002], [((168, 168, 1, 0), (168, []), (0, [(60001, 1)]), (0, [(60002, 1)]))], [(0, [(60001, 1)]), (3, [(60001, (-1))])], [(1000, [(60002, 1)]), (1000, [(60002, (-1))])])
      | none => false) = true))]
    intro ρ β _ hE hG c hc
    have g0 : (0 : Int) ≤ 0 + (1 * β 60001 + 0) := hG _ (List.mem_cons_self)
    have g1 : (0 : Int) ≤ 3 + ((-1) * β 60001 + 0) := hG _ (List.mem_cons_of_mem _ List.mem_cons_self)
    have w0 : gz h' (168 + 0) (0 + (1 * β 60001 + 0)) = 0 + (1 * β 60002 + 0) := (hE _ (List.mem_cons_self)).2
    rw [show (0 + (1 * β 60001 + 0) : Int) = β 60001 by omega] at w0
    have e0 : gz h' (168 + 0) (β 60001) = ga h' 168 (β 60001) := ga_gz (c := 168) (i := β 60001) (by omega) (by omega)
    have e0 : β 60002 = ga h' 168 (β 60001) := by have w : gz h' (168 + 0) (β 60001) = 0 + (1 * β 60002 + 0) := w0; omega
    have d := dX0_a_settled (β 60001) (by omega) (by omega)
    simp only [List.mem_cons, List.not_mem_nil, or_false] at hc
    rcases hc with rfl | rfl
    · show (0 : Int) ≤ 1000 + (1 * β 60002 + 0)
      omega
    · show (0 : Int) ≤ 1000 + ((-1) * β 60002 + 0)
      omega
  refine ⟨fun v => if v < 200 then ρ v else o.2.2, by exact fun v hv => if_pos (bltN (List.all_eq_true.mp (show (cAv ct_X0_read).all (fun v => Nat.blt v 200) = true by decide +kernel) v (zmem_of hv))), ⟨o1, Prod.ext o2 rfl⟩, S, F, fun _ y => absurd y List.not_mem_nil, fun _ y => absurd y List.not_mem_nil, fun _ y => absurd y List.not_mem_nil, List.forall_mem_cons.mpr ⟨tX0_f_beams, List.forall_mem_cons.mpr ⟨tX0_f_rows, List.forall_mem_cons.mpr ⟨tX0_f_signs, List.forall_mem_cons.mpr ⟨out_X0_r_size0 (fun b b0 b1 => (zz b b0 b1).1), List.forall_mem_cons.mpr ⟨out_X0_r_size1 (fun b b0 b1 => (zz b b0 b1).2), List.forall_mem_cons.mpr ⟨tX0_a_settled, fun _ y => absurd y List.not_mem_nil⟩⟩⟩⟩⟩⟩, fun _ y => absurd y List.not_mem_nil⟩
