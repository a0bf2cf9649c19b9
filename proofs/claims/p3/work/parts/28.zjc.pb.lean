/-! from the walks by hand to the contracts: X0 -/
theorem in_X0_r_size0 {h : MH} (st : StrZ zT h) (w : zGl zG zi_X0_r_size0 h) (b : Int) (b0 : 0 ≤ b) (b1 : b < 3) : 1 ≤ ga h (sR b) 0 ∧ ga h (sR b) 0 ≤ 12 := by
  unfold zGl at w
  rw [(zG_is (by decide +kernel : (match zG.1 zi_X0_r_size0 with
      | some x => zBeq x ([60001, 60002], [((163, 165, 1, 0), (163, [(60001, 1)]), (0, []), (0, [(60002, 1)]))], [(0, [(60001, 1)]), (2, [(60001, (-1))])], [((-1), [(60002, 1)]), (12, [(60002, (-1))])])
      | none => false) = true))] at w
  have w := w (fun v => bif Nat.beq v 60002 then ga h (sR b) 0 else b) (fun v => bif Nat.beq v 60002 then ga h (sR b) 0 else b) (fun _ _ => rfl) (List.forall_mem_cons.mpr ⟨⟨?_, ?_⟩, fun _ y => absurd y List.not_mem_nil⟩) (List.forall_mem_cons.mpr ⟨?_, List.forall_mem_cons.mpr ⟨?_, fun _ y => absurd y List.not_mem_nil⟩⟩)
  · have z0 : (0 : Int) ≤ -1 + (1 * ga h (sR b) 0 + 0) := w _ (List.mem_cons_self)
    have z1 : (0 : Int) ≤ 12 + ((-1) * ga h (sR b) 0 + 0) := w _ (List.mem_cons_of_mem _ List.mem_cons_self)
    omega
  · show inZ (163, 165, 1, 0) (163 + (1 * b + 0)) (0 + 0)
    unfold inZ
    refine ⟨⟨?_, Or.inr ?_⟩, ?_⟩ <;> first | (show (163 : Int) ≤ _; omega) | (show _ ≤ (165 : Int); omega) | (left; decide)
  · show gz h (163 + (1 * b + 0)) (0 + 0) = 0 + (1 * ga h (sR b) 0 + 0)
    rw [show (163 + (1 * b + 0) : Int) = ((sR b : Nat) : Int) by unfold sR; omega, show (0 + 0 : Int) = 0 by decide, ga_gz (c := sR b) (i := 0) (by decide) (by decide)]
    omega
  · show (0 : Int) ≤ 0 + (1 * b + 0)
    omega
  · show (0 : Int) ≤ 2 + ((-1) * b + 0)
    omega
theorem in_X0_r_size1 {h : MH} (st : StrZ zT h) (w : zGl zG zi_X0_r_size1 h) (b : Int) (b0 : 0 ≤ b) (b1 : b < 3) : 1 ≤ ga h (sR b) 1 ∧ ga h (sR b) 1 ≤ 12 := by
  unfold zGl at w
  rw [(zG_is (by decide +kernel : (match zG.1 zi_X0_r_size1 with
      | some x => zBeq x ([60001, 60002], [((163, 165, 1, 0), (163, [(60001, 1)]), (1, []), (0, [(60002, 1)]))], [(0, [(60001, 1)]), (2, [(60001, (-1))])], [((-1), [(60002, 1)]), (12, [(60002, (-1))])])
      | none => false) = true))] at w
  have w := w (fun v => bif Nat.beq v 60002 then ga h (sR b) 1 else b) (fun v => bif Nat.beq v 60002 then ga h (sR b) 1 else b) (fun _ _ => rfl) (List.forall_mem_cons.mpr ⟨⟨?_, ?_⟩, fun _ y => absurd y List.not_mem_nil⟩) (List.forall_mem_cons.mpr ⟨?_, List.forall_mem_cons.mpr ⟨?_, fun _ y => absurd y List.not_mem_nil⟩⟩)
  · have z0 : (0 : Int) ≤ -1 + (1 * ga h (sR b) 1 + 0) := w _ (List.mem_cons_self)
    have z1 : (0 : Int) ≤ 12 + ((-1) * ga h (sR b) 1 + 0) := w _ (List.mem_cons_of_mem _ List.mem_cons_self)
    omega
  · show inZ (163, 165, 1, 0) (163 + (1 * b + 0)) (1 + 0)
    unfold inZ
    refine ⟨⟨?_, Or.inr ?_⟩, ?_⟩ <;> first | (show (163 : Int) ≤ _; omega) | (show _ ≤ (165 : Int); omega) | (left; decide)
  · show gz h (163 + (1 * b + 0)) (1 + 0) = 0 + (1 * ga h (sR b) 1 + 0)
    rw [show (163 + (1 * b + 0) : Int) = ((sR b : Nat) : Int) by unfold sR; omega, show (1 + 0 : Int) = 1 by decide, ga_gz (c := sR b) (i := 1) (by decide) (by decide)]
    omega
  · show (0 : Int) ≤ 0 + (1 * b + 0)
    omega
  · show (0 : Int) ≤ 2 + ((-1) * b + 0)
    omega
theorem E_k {o W : Nat} (m : isE o W) : o = 197 + 2 * ((o - 197) / 2) ∧ (o - 197) / 2 < 153 ∧ W = rmX0 ((o - 197) / 2) := by
  have b := m.b
  have t := tbX0 ((o - 197) / 2) (by omega)
  have t2 := tbE m
  have e : 197 + 2 * ((o - 197) / 2) = o := by omega
  refine ⟨by omega, by omega, ?_⟩
  rw [e] at t
  rw [t2.2.2, t.2.2.1]
theorem ED.of {h : MH} (f : FBX0 h) : ED h := fun o W m => by
  obtain ⟨e1, e2, e3⟩ := E_k m
  obtain ⟨s, l, d, g, t⟩ := f _ e2
  have b := m.b
  rw [← e1, ← e3] at l
  rw [← e1] at d g t
  exact ⟨d, l, g, fun a b c => t (by omega) c⟩
theorem FBX0.ed {h h' : MH} (f : FBX0 h) (st : StrZ zT h') (o : Only pCs h h') (d : ED h') : FBX0 h' := fun k hk => by
  obtain ⟨s, l, dg, g, t⟩ := f k hk
  have s' := sbX0 st k hk
  by_cases w : (6 ≤ k ∧ k ≤ 133) ∨ 147 ≤ k
  · have m : isE (197 + 2 * k) (rmX0 k) := by
      unfold rmX0
      rcases w with w | w
      · rw [if_neg (by omega), if_pos (by omega)]
        exact Or.inl ⟨k - 6, by omega, by omega, rfl⟩
      · rw [if_neg (by omega), if_neg (by omega), if_neg (by omega)]
        exact Or.inr ⟨k - 147, by omega, by omega, rfl⟩
    obtain ⟨a1, a2, a3, a4⟩ := d _ _ m
    exact ⟨s', a2, a1, a3, fun tt c => a4 (by omega) (by omega) c⟩
  · have n1 : 197 + 2 * k ∉ pCs := fun x => by
      have := mem_pCs.mp x
      omega
    have n2 : 197 + 2 * k + 1 ∉ pCs := fun x => by
      have := mem_pCs.mp x
      omega
    refine ⟨s', ?_, ?_, ?_, ?_⟩
    · rw [onlyF o n1]; exact l
    · rw [onlyF o n2]; exact dg
    · rw [onlyF o n1]; exact g
    · rw [onlyF o n1, onlyF o n2]; exact t
theorem inP {a b c : Nat} {j : Int} (h1 : a ≤ c) (h2 : c ≤ b) : inZ (a, b, 1, 0) (c : Int) j := ⟨⟨by show (a : Int) ≤ _; omega, Or.inr (by show _ ≤ (b : Int); omega)⟩, Or.inl Nat.zero_lt_one⟩
def ct_X0_prepare : ZCt := (20, [(2, (161, []))], [((161, []), (9, []), 50), ((161, []), (12, []), 51)], [], [zi_X0b_kd, zi_X0b_ka, zi_X0b_rf, zi_X0b_ln0, zi_X0b_ln1, zi_X0b_ln2, zi_X0b_ln3, zi_X0b_lnx, zi_X0b_len, zi_X0b_sg, zi_X0b_lb, zi_X0b_top0, zi_X0b_top1, zi_X0_f_beams, zi_X0_f_rows, zi_X0_f_signs, zi_X0_f_free, zi_X0_r_size0, zi_X0_r_size1, zi_X0_a_moveOf, zi_X0_a_settled, zi_X0_r_row0, zi_X0_r_row1, zi_X0_r_row2, zi_X0_rw], [(161, 161, 9, 9), (161, 161, 10, 10), (161, 161, 12, 12), (161, 161, 14, 14), (180, 180, 1, 0), (181, 181, 1, 0), (183, 190, 1, 0), (197, 502, 0, 1099511627775)], none, [((161, []), (9, []), 201), ((161, []), (12, []), 202)], [(0, [(50, (-1)), (201, 1)]), (1, [(50, 1), (201, (-1))]), (8, [(51, (-1)), (202, 1)]), (8, [(51, 1), (202, (-1))])], [], [zi_X0b_rf, zi_X0b_len, zi_X0b_sg, zi_X0b_lb, zi_X0b_top0, zi_X0b_top1, zi_X0_f_free, zi_X0_a_moveOf], [], [], 0, 0, [])
set_option maxRecDepth 100000 in
set_option maxHeartbeats 4000000 in
theorem ok_X0_prepare : CtOk zG zT ct_X0_prepare := by
  refine ⟨by decide +kernel, fun q hq ρ h st hE hF hV _ => ?_⟩
  cases (show some ((KX0_prepare, yX0_prepare, 0, 0, 0) : MR) = some q from hq)
  have eA : ((kA ct_X0_prepare).map fun q => (q.1, zv ρ q.2) : List MV) = [(2, ((161 : Nat) : Int))] := by
    show ([(2, 161 + 0)] : List MV) = _
    simp only [Int.add_zero, Int.zero_add, Int.one_mul]
    rfl
  show MCal KX0_prepare yX0_prepare _ _ _ h _
  rw [eA]
  have cX0_f_beams : 0 ≤ (-1) + (1 * (ga h 161 0) + 0) ∧ 0 ≤ 3 + ((-1) * (ga h 161 0) + 0) := by
    have w := hV zi_X0_f_beams (List.mem_of_getElem? (i := 13) rfl)
    unfold zGl at w
    rw [(zG_is (by decide +kernel : (match zG.1 zi_X0_f_beams with
      | some x => zBeq x ([60001], [((161, 161, 0, 0), (161, []), (0, []), (0, [(60001, 1)]))], [], [((-1), [(60001, 1)]), (3, [(60001, (-1))])])
      | none => false) = true))] at w
    have e0 : gz h 161 0 = ga h 161 0 := ga_gz (c := 161) (by omega) (by omega)
    have w := w (fun v =>  (ga h 161 0)) (fun v =>  (ga h 161 0)) (fun _ _ => rfl) (List.forall_mem_cons.mpr ⟨⟨?_, ?_⟩, fun _ y => absurd y List.not_mem_nil⟩) (fun _ y => absurd y List.not_mem_nil)
    · have z0 : (0 : Int) ≤ (-1) + (1 * (ga h 161 0) + 0) := w _ (List.mem_cons_self)
      have z1 : (0 : Int) ≤ 3 + ((-1) * (ga h 161 0) + 0) := w _ (List.mem_cons_of_mem _ List.mem_cons_self)
      exact ⟨z0, z1⟩
    · exact (inZ1 (c := 161) (j := 0) rfl)
    · show gz h (161 + 0) (0 + 0) = 0 + (1 * (ga h 161 0) + 0)
      have e0 : gz h (161 + 0) (0 + 0) = (ga h 161 0) := e0
      omega
  have cX0_f_free : 0 ≤ 0 + (1 * (ga h 161 12) + 0) ∧ 0 ≤ 8 + ((-1) * (ga h 161 12) + 0) := by
    have w := hV zi_X0_f_free (List.mem_of_getElem? (i := 16) rfl)
    unfold zGl at w
    rw [(zG_is (by decide +kernel : (match zG.1 zi_X0_f_free with
      | some x => zBeq x ([60001], [((161, 161, 12, 12), (161, []), (12, []), (0, [(60001, 1)]))], [], [(0, [(60001, 1)]), (8, [(60001, (-1))])])
      | none => false) = true))] at w
    have e0 : gz h 161 12 = ga h 161 12 := ga_gz (c := 161) (by omega) (by omega)
    have w := w (fun v =>  (ga h 161 12)) (fun v =>  (ga h 161 12)) (fun _ _ => rfl) (List.forall_mem_cons.mpr ⟨⟨?_, ?_⟩, fun _ y => absurd y List.not_mem_nil⟩) (fun _ y => absurd y List.not_mem_nil)
    · have z0 : (0 : Int) ≤ 0 + (1 * (ga h 161 12) + 0) := w _ (List.mem_cons_self)
      have z1 : (0 : Int) ≤ 8 + ((-1) * (ga h 161 12) + 0) := w _ (List.mem_cons_of_mem _ List.mem_cons_self)
      exact ⟨z0, z1⟩
    · exact (inZ1 (c := 161) (j := 12) rfl)
    · show gz h (161 + 0) (12 + 0) = 0 + (1 * (ga h 161 12) + 0)
      have e0 : gz h (161 + 0) (12 + 0) = (ga h 161 12) := e0
      omega
  have cX0_a_moveOf : ∀ i : Int, 0 ≤ 0 + (1 * i + 0) → 0 ≤ 7 + ((-1) * i + 0) → 0 ≤ 0 + (1 * (ga h 181 i) + 0) ∧ 0 ≤ 7 + ((-1) * (ga h 181 i) + 0) := fun i g0 g1 => by
    have w := hV zi_X0_a_moveOf (List.mem_of_getElem? (i := 19) rfl)
    unfold zGl at w
    rw [(zG_is (by decide +kernel : (match zG.1 zi_X0_a_moveOf with
      | some x => zBeq x ([60001, 60002], [((181, 181, 1, 0), (181, []), (0, [(60001, 1)]), (0, [(60002, 1)]))], [(0, [(60001, 1)]), (7, [(60001, (-1))])], [(0, [(60002, 1)]), (7, [(60002, (-1))])])
      | none => false) = true))] at w
    have e0 : gz h 181 i = ga h 181 i := ga_gz (c := 181) (by omega) (by omega)
    have w := w (fun v => bif Nat.beq v 60002 then (ga h 181 i) else i) (fun v => bif Nat.beq v 60002 then (ga h 181 i) else i) (fun _ _ => rfl) (List.forall_mem_cons.mpr ⟨⟨?_, ?_⟩, fun _ y => absurd y List.not_mem_nil⟩) (List.forall_mem_cons.mpr ⟨?_, List.forall_mem_cons.mpr ⟨?_, fun _ y => absurd y List.not_mem_nil⟩⟩)
    · have z0 : (0 : Int) ≤ 0 + (1 * (ga h 181 i) + 0) := w _ (List.mem_cons_self)
      have z1 : (0 : Int) ≤ 7 + ((-1) * (ga h 181 i) + 0) := w _ (List.mem_cons_of_mem _ List.mem_cons_self)
      exact ⟨z0, z1⟩
    · exact (inZA (c := 181))
    · show gz h (181 + 0) (0 + (1 * i + 0)) = 0 + (1 * (ga h 181 i) + 0)
      rw [show (0 + (1 * i + 0) : Int) = i by omega]
      have e0 : gz h (181 + 0) (i) = (ga h 181 i) := e0
      omega
    · show (0 : Int) ≤ 0 + (1 * i + 0)
      omega
    · show (0 : Int) ≤ 7 + ((-1) * i + 0)
      omega
  have s0 := in_X0_r_size0 st (hV zi_X0_r_size0 (List.mem_of_getElem? (i := 17) rfl))
  have s1 := in_X0_r_size1 st (hV zi_X0_r_size1 (List.mem_of_getElem? (i := 18) rfl))
  have fb := FBX0.of st (hV zi_X0b_len (List.mem_of_getElem? (i := 8) rfl)) (hV zi_X0b_sg (List.mem_of_getElem? (i := 9) rfl)) (hV zi_X0b_lb (List.mem_of_getElem? (i := 10) rfl)) (hV zi_X0b_top0 (List.mem_of_getElem? (i := 11) rfl)) (hV zi_X0b_top1 (List.mem_of_getElem? (i := 12) rfl))
  have sz : SZ0 h := ⟨by omega, fun b b0 b1 => ⟨s0 b b0 b1, s1 b b0 b1⟩⟩
  refine MCal.mono (fun o h' w => ?_) (h_X0_prepare (h := h) sz (ED.of fb) (by omega) (fun j a b => by have := cX0_a_moveOf j (by omega) (by omega); omega) st)
  obtain ⟨o1, S, oo, ff, fr, dd, nf, mv⟩ := w
  have fb2 := fb.ed S oo dd
  have e0 := hE _ (List.mem_of_getElem? (i := 0) rfl)
  have e1 := hE _ (List.mem_of_getElem? (i := 1) rfl)
  have e0 : gz h (161 + 0) (9 + 0) = ρ 50 := e0
  have e1 : gz h (161 + 0) (12 + 0) = ρ 51 := e1
  have e0 : ga h 161 9 = ρ 50 := (ga_gz (c := 161) (i := 9) (by decide) (by decide)).symm.trans e0
  have e1 : ga h 161 12 = ρ 51 := (ga_gz (c := 161) (i := 12) (by decide) (by decide)).symm.trans e1
  have F : Frm (kMd ct_X0_prepare) h h' := by
    refine frm_only2 oo fun c hc j jb n => ?_
    rcases mem_pCs.mp hc with rfl | q | q | q
    · have w : ∀ (i : Nat) (k : Nat), (kMd ct_X0_prepare)[i]? = some (161, 161, k, k) → j ≠ k := fun i k e z => n _ (List.mem_of_getElem? e) (by rw [z]; exact inZ1 (c := 161) (j := k) rfl)
      exact ff (j : Int) (by omega) (by have := w 0 9 rfl; omega) (by have := w 1 10 rfl; omega) (by have := w 2 12 rfl; omega) (by have := w 3 14 rfl; omega)
    · exfalso
      rcases (show c = 180 ∨ c = 181 by omega) with rfl | rfl
      · exact n _ (List.mem_of_getElem? (i := 4) rfl) (inP (by decide) (by decide))
      · exact n _ (List.mem_of_getElem? (i := 5) rfl) (inP (by decide) (by decide))
    · exact absurd (inP (by omega) (by omega)) (n _ (List.mem_of_getElem? (i := 6) rfl))
    · exact absurd (inR (by omega) (by omega) jb) (n _ (List.mem_of_getElem? (i := 7) rfl))
  have dX0_f_free : 0 ≤ 0 + (1 * (ga h' 161 12) + 0) ∧ 0 ≤ 8 + ((-1) * (ga h' 161 12) + 0) := by omega
  have tX0_f_free : zGl zG zi_X0_f_free h' := by
    unfold zGl
    rw [(zG_is (by decide +kernel : (match zG.1 zi_X0_f_free with
      | some x => zBeq x ([60001], [((161, 161, 12, 12), (161, []), (12, []), (0, [(60001, 1)]))], [], [(0, [(60001, 1)]), (8, [(60001, (-1))])])
      | none => false) = true))]
    intro ρ β _ hE hG c hc
    have w0 : gz h' (161 + 0) (12 + 0) = 0 + (1 * β 60001 + 0) := (hE _ (List.mem_cons_self)).2
    have w0 : gz h' 161 12 = 0 + (1 * β 60001 + 0) := w0
    have e0 : gz h' (161 + 0) (12) = ga h' 161 (12) := ga_gz (c := 161) (i := 12) (by omega) (by omega)
    have e0 : β 60001 = ga h' 161 (12) := by have w : gz h' (161 + 0) (12) = 0 + (1 * β 60001 + 0) := w0; omega
    have d := dX0_f_free  
    simp only [List.mem_cons, List.not_mem_nil, or_false] at hc
    rcases hc with rfl | rfl
    · show (0 : Int) ≤ 0 + (1 * β 60001 + 0)
      omega
    · show (0 : Int) ≤ 8 + ((-1) * β 60001 + 0)
      omega
  have dX0_a_moveOf : ∀ i : Int, 0 ≤ 0 + (1 * i + 0) → 0 ≤ 7 + ((-1) * i + 0) → 0 ≤ 0 + (1 * (ga h' 181 i) + 0) ∧ 0 ≤ 7 + ((-1) * (ga h' 181 i) + 0) := fun i g0 g1 => by have := mv i (by omega) (by omega); omega
  have tX0_a_moveOf : zGl zG zi_X0_a_moveOf h' := by
    unfold zGl
    rw [(zG_is (by decide +kernel : (match zG.1 zi_X0_a_moveOf with
      | some x => zBeq x ([60001, 60002], [((181, 181, 1, 0), (181, []), (0, [(60001, 1)]), (0, [(60002, 1)]))], [(0, [(60001, 1)]), (7, [(60001, (-1))])], [(0, [(60002, 1)]), (7, [(60002, (-1))])])
      | none => false) = true))]
    intro ρ β _ hE hG c hc
    have g0 : (0 : Int) ≤ 0 + (1 * β 60001 + 0) := hG _ (List.mem_cons_self)
    have g1 : (0 : Int) ≤ 7 + ((-1) * β 60001 + 0) := hG _ (List.mem_cons_of_mem _ List.mem_cons_self)
    have w0 : gz h' (181 + 0) (0 + (1 * β 60001 + 0)) = 0 + (1 * β 60002 + 0) := (hE _ (List.mem_cons_self)).2
    rw [show (0 + (1 * β 60001 + 0) : Int) = β 60001 by omega] at w0
    have e0 : gz h' (181 + 0) (β 60001) = ga h' 181 (β 60001) := ga_gz (c := 181) (i := β 60001) (by omega) (by omega)
    have e0 : β 60002 = ga h' 181 (β 60001) := by have w : gz h' (181 + 0) (β 60001) = 0 + (1 * β 60002 + 0) := w0; omega
    have d := dX0_a_moveOf (β 60001) (by omega) (by omega)
    simp only [List.mem_cons, List.not_mem_nil, or_false] at hc
    rcases hc with rfl | rfl
    · show (0 : Int) ≤ 0 + (1 * β 60002 + 0)
      omega
    · show (0 : Int) ≤ 7 + ((-1) * β 60002 + 0)
      omega
  refine ⟨fun v => if v < 200 then ρ v else if v = 201 then ga h' 161 9 else ga h' 161 12, by exact fun v hv => if_pos (bltN (List.all_eq_true.mp (show (cAv ct_X0_prepare).all (fun v => Nat.blt v 200) = true by decide +kernel) v (zmem_of hv))), o1, S, F, ?_, ?_, fun _ y => absurd y List.not_mem_nil, List.forall_mem_cons.mpr ⟨out_X0b_rf S fb2, List.forall_mem_cons.mpr ⟨out_X0b_len S fb2, List.forall_mem_cons.mpr ⟨out_X0b_sg S fb2, List.forall_mem_cons.mpr ⟨out_X0b_lb S fb2, List.forall_mem_cons.mpr ⟨out_X0b_top0 S fb2, List.forall_mem_cons.mpr ⟨out_X0b_top1 S fb2, List.forall_mem_cons.mpr ⟨tX0_f_free, List.forall_mem_cons.mpr ⟨tX0_a_moveOf, fun _ y => absurd y List.not_mem_nil⟩⟩⟩⟩⟩⟩⟩⟩, fun _ y => absurd y List.not_mem_nil⟩
  · refine List.forall_mem_cons.mpr ⟨?_, List.forall_mem_cons.mpr ⟨?_, fun _ y => absurd y List.not_mem_nil⟩⟩
    · exact ga_gz (c := 161) (i := 9) (by decide) (by decide)
    · exact ga_gz (c := 161) (i := 12) (by decide) (by decide)
  · have x0 := cX0_f_free
    refine List.forall_mem_cons.mpr ⟨?_, List.forall_mem_cons.mpr ⟨?_, List.forall_mem_cons.mpr ⟨?_, List.forall_mem_cons.mpr ⟨?_, fun _ y => absurd y List.not_mem_nil⟩⟩⟩⟩
    · show (0 : Int) ≤ 0 + ((-1) * ρ 50 + (1 * ga h' 161 9 + 0))
      omega
    · show (0 : Int) ≤ 1 + (1 * ρ 50 + ((-1) * ga h' 161 9 + 0))
      omega
    · show (0 : Int) ≤ 8 + ((-1) * ρ 51 + (1 * ga h' 161 12 + 0))
      omega
    · show (0 : Int) ≤ 8 + (1 * ρ 51 + ((-1) * ga h' 161 12 + 0))
      omega
