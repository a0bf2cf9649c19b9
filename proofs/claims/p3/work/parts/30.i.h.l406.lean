/-! call 406: what is carried stays so -/
theorem zJ_l8 : (zJ.all fun k => Nat.beq k zi_X8_a_lines || (Nat.beq k zi_X8_q_cycles || zkpC zG [(774, 781, 1, 0), (783, 790, 1, 0), (791, 791, 1, 0)] 2628 (k, ([], [], [], [])))) = true := by decide +kernel
theorem zJ_l18 : (zJ.all fun k => Nat.beq k zi_X18_a_lines || (Nat.beq k zi_X18_cyc || (Nat.beq k zi_X18_hal || zkpC zG [(2540, 2542, 1, 0)] 2628 (k, ([], [], [], []))))) = true := by decide +kernel
theorem in_q8 {h : MH} (w : zGl zG zi_X8_q_cycles h) (i j : Int) (i0 : 0 ≤ i) (i1 : i < 8) (j0 : 0 ≤ j) (j1 : j < 4) : 0 ≤ ga h (rC 783 i) j ∧ ga h (rC 783 i) j ≤ 1000000 := by
  unfold zGl at w
  rw [(zG_is (by decide +kernel : (match zG.1 zi_X8_q_cycles with
      | some x => zBeq x ([60001, 60002, 60003], [((783, 790, 1, 0), (783, [(60001, 1)]), (0, [(60002, 1)]), (0, [(60003, 1)]))], [(0, [(60001, 1)]), (7, [(60001, (-1))]), (0, [(60002, 1)]), (3, [(60002, (-1))])], [(0, [(60003, 1)]), (1000000, [(60003, (-1))])])
      | none => false) = true))] at w
  have w := w (fun v => bif Nat.beq v 60003 then ga h (rC 783 i) j else bif Nat.beq v 60002 then j else i) (fun v => bif Nat.beq v 60003 then ga h (rC 783 i) j else bif Nat.beq v 60002 then j else i) (fun _ _ => rfl) (List.forall_mem_cons.mpr ⟨⟨?_, ?_⟩, fun _ y => absurd y List.not_mem_nil⟩) (List.forall_mem_cons.mpr ⟨?_, List.forall_mem_cons.mpr ⟨?_, List.forall_mem_cons.mpr ⟨?_, List.forall_mem_cons.mpr ⟨?_, fun _ y => absurd y List.not_mem_nil⟩⟩⟩⟩)
  · have z0 : (0 : Int) ≤ 0 + (1 * ga h (rC 783 i) j + 0) := w _ (List.mem_cons_self)
    have z1 : (0 : Int) ≤ 1000000 + ((-1) * ga h (rC 783 i) j + 0) := w _ (List.mem_cons_of_mem _ List.mem_cons_self)
    omega
  · show inZ (783, 790, 1, 0) (783 + (1 * i + 0)) (0 + (1 * j + 0))
    unfold inZ
    refine ⟨⟨?_, Or.inr ?_⟩, ?_⟩ <;> first | (show (783 : Int) ≤ _; omega) | (show _ ≤ (790 : Int); omega) | (left; decide)
  · show gz h (783 + (1 * i + 0)) (0 + (1 * j + 0)) = 0 + (1 * ga h (rC 783 i) j + 0)
    rw [show (783 + (1 * i + 0) : Int) = ((rC 783 i : Nat) : Int) by unfold rC; omega, show (0 + (1 * j + 0) : Int) = j by omega, ga_gz (c := rC 783 i) (i := j) (by omega) (by omega)]
    omega
  · show (0 : Int) ≤ 0 + (1 * i + 0)
    omega
  · show (0 : Int) ≤ 7 + ((-1) * i + 0)
    omega
  · show (0 : Int) ≤ 0 + (1 * j + 0)
    omega
  · show (0 : Int) ≤ 3 + ((-1) * j + 0)
    omega
theorem out_q8 {h : MH} (d : ∀ i j : Int, 0 ≤ i → i < 8 → 0 ≤ j → j < 4 → 0 ≤ ga h (rC 783 i) j ∧ ga h (rC 783 i) j ≤ 1000000) : zGl zG zi_X8_q_cycles h := by
  unfold zGl
  rw [(zG_is (by decide +kernel : (match zG.1 zi_X8_q_cycles with
      | some x => zBeq x ([60001, 60002, 60003], [((783, 790, 1, 0), (783, [(60001, 1)]), (0, [(60002, 1)]), (0, [(60003, 1)]))], [(0, [(60001, 1)]), (7, [(60001, (-1))]), (0, [(60002, 1)]), (3, [(60002, (-1))])], [(0, [(60003, 1)]), (1000000, [(60003, (-1))])])
      | none => false) = true))]
  intro ρ β _ hE hG c hc
  have g0 : (0 : Int) ≤ 0 + (1 * β 60001 + 0) := hG _ (List.mem_cons_self)
  have g1 : (0 : Int) ≤ 7 + ((-1) * β 60001 + 0) := hG _ (List.mem_cons_of_mem _ List.mem_cons_self)
  have g2 : (0 : Int) ≤ 0 + (1 * β 60002 + 0) := hG _ (List.mem_cons_of_mem _ (List.mem_cons_of_mem _ List.mem_cons_self))
  have g3 : (0 : Int) ≤ 3 + ((-1) * β 60002 + 0) := hG _ (List.mem_cons_of_mem _ (List.mem_cons_of_mem _ (List.mem_cons_of_mem _ List.mem_cons_self)))
  have w0 : gz h (783 + (1 * β 60001 + 0)) (0 + (1 * β 60002 + 0)) = 0 + (1 * β 60003 + 0) := (hE _ (List.mem_cons_self)).2
  rw [show (783 + (1 * β 60001 + 0) : Int) = ((rC 783 (β 60001) : Nat) : Int) by unfold rC; omega, show (0 + (1 * β 60002 + 0) : Int) = β 60002 by omega, ga_gz (c := rC 783 (β 60001)) (i := β 60002) (by omega) (by omega)] at w0
  have q := d (β 60001) (β 60002) (by omega) (by omega) (by omega) (by omega)
  simp only [List.mem_cons, List.not_mem_nil, or_false] at hc
  rcases hc with rfl | rfl
  · show (0 : Int) ≤ 0 + (1 * β 60003 + 0)
    omega
  · show (0 : Int) ≤ 1000000 + ((-1) * β 60003 + 0)
    omega
theorem JJ.l8 {h h' : MH} {c w m : Int} (J : JJ zJ h) (a : A8 h c w m h') : JJ zJ h' ∧ Frm [(774, 781, 1, 0), (783, 790, 1, 0), (791, 791, 1, 0)] h h' := by
  obtain ⟨S, o, r⟩ := a
  have F : Frm [(774, 781, 1, 0), (783, 790, 1, 0), (791, 791, 1, 0)] h h' := by
    refine frm_only2 o fun d hd j jb n => ?_
    rcases mem_lCs.mp hd with q | q
    · exact absurd (inP (by omega) (by omega)) (n _ (List.mem_of_getElem? (i := 0) rfl))
    · by_cases e : d = 791
      · rw [e] at n
        exact absurd (inP (by decide) (by decide)) (n _ (List.mem_of_getElem? (i := 2) rfl))
      · exact absurd (inP (by omega) (by omega)) (n _ (List.mem_of_getElem? (i := 1) rfl))
  refine ⟨?_, F⟩
  rcases r with ⟨⟨o1, o2, o3, o4, o5, o6, o7, o8⟩, e1, e2, e3, e4, e5⟩ | ⟨_, rfl⟩
  · have cX8_a_lines : ∀ i : Int, 0 ≤ 0 + (1 * i + 0) → 0 ≤ 7 + ((-1) * i + 0) → 0 ≤ 0 + (1 * (ga h 791 i) + 0) ∧ 0 ≤ 4 + ((-1) * (ga h 791 i) + 0) := fun i g0 g1 => by
      have w := J.2 zi_X8_a_lines (by decide +kernel)
      unfold zGl at w
      rw [(zG_is (by decide +kernel : (match zG.1 zi_X8_a_lines with
      | some x => zBeq x ([60001, 60002], [((791, 791, 1, 0), (791, []), (0, [(60001, 1)]), (0, [(60002, 1)]))], [(0, [(60001, 1)]), (7, [(60001, (-1))])], [(0, [(60002, 1)]), (4, [(60002, (-1))])])
      | none => false) = true))] at w
      have e0 : gz h 791 i = ga h 791 i := ga_gz (c := 791) (by omega) (by omega)
      have w := w (fun v => bif Nat.beq v 60002 then (ga h 791 i) else i) (fun v => bif Nat.beq v 60002 then (ga h 791 i) else i) (fun _ _ => rfl) (List.forall_mem_cons.mpr ⟨⟨?_, ?_⟩, fun _ y => absurd y List.not_mem_nil⟩) (List.forall_mem_cons.mpr ⟨?_, List.forall_mem_cons.mpr ⟨?_, fun _ y => absurd y List.not_mem_nil⟩⟩)
      · have z0 : (0 : Int) ≤ 0 + (1 * (ga h 791 i) + 0) := w _ (List.mem_cons_self)
        have z1 : (0 : Int) ≤ 4 + ((-1) * (ga h 791 i) + 0) := w _ (List.mem_cons_of_mem _ List.mem_cons_self)
        exact ⟨z0, z1⟩
      · exact (inZA (c := 791))
      · show gz h (791 + 0) (0 + (1 * i + 0)) = 0 + (1 * (ga h 791 i) + 0)
        rw [show (0 + (1 * i + 0) : Int) = i by omega]
        have e0 : gz h (791 + 0) (i) = (ga h 791 i) := e0
        omega
      · show (0 : Int) ≤ 0 + (1 * i + 0)
        omega
      · show (0 : Int) ≤ 7 + ((-1) * i + 0)
        omega
    have cq := in_q8 (J.2 zi_X8_q_cycles (by decide +kernel))
    have dX8_a_lines : ∀ i : Int, 0 ≤ 0 + (1 * i + 0) → 0 ≤ 7 + ((-1) * i + 0) → 0 ≤ 0 + (1 * (ga h' 791 i) + 0) ∧ 0 ≤ 4 + ((-1) * (ga h' 791 i) + 0) := fun i g0 g1 => by
      have a := cX8_a_lines i (by omega) (by omega)
      by_cases q : i = c
      · subst q
        omega
      · have b := e4 i (by omega) q
        omega
    have tX8_a_lines : zGl zG zi_X8_a_lines h' := by
      unfold zGl
      rw [(zG_is (by decide +kernel : (match zG.1 zi_X8_a_lines with
      | some x => zBeq x ([60001, 60002], [((791, 791, 1, 0), (791, []), (0, [(60001, 1)]), (0, [(60002, 1)]))], [(0, [(60001, 1)]), (7, [(60001, (-1))])], [(0, [(60002, 1)]), (4, [(60002, (-1))])])
      | none => false) = true))]
      intro ρ β _ hE hG c hc
      have g0 : (0 : Int) ≤ 0 + (1 * β 60001 + 0) := hG _ (List.mem_cons_self)
      have g1 : (0 : Int) ≤ 7 + ((-1) * β 60001 + 0) := hG _ (List.mem_cons_of_mem _ List.mem_cons_self)
      have w0 : gz h' (791 + 0) (0 + (1 * β 60001 + 0)) = 0 + (1 * β 60002 + 0) := (hE _ (List.mem_cons_self)).2
      rw [show (0 + (1 * β 60001 + 0) : Int) = β 60001 by omega] at w0
      have e0 : gz h' (791 + 0) (β 60001) = ga h' 791 (β 60001) := ga_gz (c := 791) (i := β 60001) (by omega) (by omega)
      have e0 : β 60002 = ga h' 791 (β 60001) := by have w : gz h' (791 + 0) (β 60001) = 0 + (1 * β 60002 + 0) := w0; omega
      have d := dX8_a_lines (β 60001) (by omega) (by omega)
      simp only [List.mem_cons, List.not_mem_nil, or_false] at hc
      rcases hc with rfl | rfl
      · show (0 : Int) ≤ 0 + (1 * β 60002 + 0)
        omega
      · show (0 : Int) ≤ 4 + ((-1) * β 60002 + 0)
        omega
    have tq : zGl zG zi_X8_q_cycles h' := out_q8 fun i j i0 i1 j0 j1 => by
      by_cases q : i = c ∧ j = ga h 791 c
      · rw [q.1, q.2, e3]
        omega
      · rw [(e5 i j i0 i1 j0 (by omega)).2]
        exact cq i j i0 i1 j0 j1
    refine ⟨S, fun k hk => ?_⟩
    have b := List.all_eq_true.mp zJ_l8 k hk
    rcases (Bool.or_eq_true _ _).mp b with e | b
    · rw [beqN e]
      exact tX8_a_lines
    · rcases (Bool.or_eq_true _ _).mp b with e | b
      · rw [beqN e]
        exact tq
      · exact zGl_kp F J.1.1.1 (List.all_eq_true.mp zJ_pos k hk) b (J.2 k hk)
  · exact J
theorem JJ.l18 {h h' : MH} {c w m : Int} (J : JJ zJ h) (a : A18 h c w m h') : JJ zJ h' ∧ Frm [(2540, 2542, 1, 0)] h h' := by
  obtain ⟨S, o, r⟩ := a
  have F : Frm [(2540, 2542, 1, 0)] h h' := by
    refine frm_only2 o fun d hd j jb n => ?_
    simp only [List.mem_cons, List.not_mem_nil, or_false] at hd
    exact absurd (inP (by omega) (by omega)) (n _ (List.mem_of_getElem? (i := 0) rfl))
  refine ⟨?_, F⟩
  rcases r with ⟨⟨o1, o2, o3, o4, o5, o6, o7, o8⟩, e1, e2, e3, e4, e5⟩ | ⟨_, rfl⟩
  · have cX18_a_lines : ∀ i : Int, 0 ≤ 0 + (1 * i + 0) → 0 ≤ 7 + ((-1) * i + 0) → 0 ≤ 0 + (1 * (ga h 2540 i) + 0) ∧ 0 ≤ 4 + ((-1) * (ga h 2540 i) + 0) := fun i g0 g1 => by
      have w := J.2 zi_X18_a_lines (by decide +kernel)
      unfold zGl at w
      rw [(zG_is (by decide +kernel : (match zG.1 zi_X18_a_lines with
      | some x => zBeq x ([60001, 60002], [((2540, 2540, 1, 0), (2540, []), (0, [(60001, 1)]), (0, [(60002, 1)]))], [(0, [(60001, 1)]), (7, [(60001, (-1))])], [(0, [(60002, 1)]), (4, [(60002, (-1))])])
      | none => false) = true))] at w
      have e0 : gz h 2540 i = ga h 2540 i := ga_gz (c := 2540) (by omega) (by omega)
      have w := w (fun v => bif Nat.beq v 60002 then (ga h 2540 i) else i) (fun v => bif Nat.beq v 60002 then (ga h 2540 i) else i) (fun _ _ => rfl) (List.forall_mem_cons.mpr ⟨⟨?_, ?_⟩, fun _ y => absurd y List.not_mem_nil⟩) (List.forall_mem_cons.mpr ⟨?_, List.forall_mem_cons.mpr ⟨?_, fun _ y => absurd y List.not_mem_nil⟩⟩)
      · have z0 : (0 : Int) ≤ 0 + (1 * (ga h 2540 i) + 0) := w _ (List.mem_cons_self)
        have z1 : (0 : Int) ≤ 4 + ((-1) * (ga h 2540 i) + 0) := w _ (List.mem_cons_of_mem _ List.mem_cons_self)
        exact ⟨z0, z1⟩
      · exact (inZA (c := 2540))
      · show gz h (2540 + 0) (0 + (1 * i + 0)) = 0 + (1 * (ga h 2540 i) + 0)
        rw [show (0 + (1 * i + 0) : Int) = i by omega]
        have e0 : gz h (2540 + 0) (i) = (ga h 2540 i) := e0
        omega
      · show (0 : Int) ≤ 0 + (1 * i + 0)
        omega
      · show (0 : Int) ≤ 7 + ((-1) * i + 0)
        omega
    have cX18_cyc : ∀ i i2 : Int, 0 ≤ 0 + (1 * i + 0) → 0 ≤ 7 + ((-1) * i + 0) → 0 ≤ 0 + ((-4) * i + (1 * i2 + 0)) → 0 ≤ (-1) + (4 * i + (1 * (ga h 2540 i) + ((-1) * i2 + 0))) → 0 ≤ (-1) + (1 * (ga h 2542 i2) + 0) ∧ 0 ≤ 1000000 + ((-1) * (ga h 2542 i2) + 0) := fun i i2 g0 g1 g2 g3 => by
      have w := J.2 zi_X18_cyc (by decide +kernel)
      unfold zGl at w
      rw [(zG_is (by decide +kernel : (match zG.1 zi_X18_cyc with
      | some x => zBeq x ([60001, 60002, 60003, 60004], [((2540, 2540, 1, 0), (2540, []), (0, [(60001, 1)]), (0, [(60002, 1)])), ((2542, 2542, 1, 0), (2542, []), (0, [(60004, 1)]), (0, [(60003, 1)]))], [(0, [(60001, 1)]), (7, [(60001, (-1))]), (0, [(60001, (-4)), (60004, 1)]), ((-1), [(60001, 4), (60002, 1), (60004, (-1))])], [((-1), [(60003, 1)]), (1000000, [(60003, (-1))])])
      | none => false) = true))] at w
      have e0 : gz h 2540 i = ga h 2540 i := ga_gz (c := 2540) (by omega) (by omega)
      have dl := cX18_a_lines i (by omega) (by omega)
      have e1 : gz h 2542 i2 = ga h 2542 i2 := ga_gz (c := 2542) (by omega) (by omega)
      have w := w (fun v => bif Nat.beq v 60002 then (ga h 2540 i) else bif Nat.beq v 60003 then (ga h 2542 i2) else bif Nat.beq v 60004 then i2 else i) (fun v => bif Nat.beq v 60002 then (ga h 2540 i) else bif Nat.beq v 60003 then (ga h 2542 i2) else bif Nat.beq v 60004 then i2 else i) (fun _ _ => rfl) (List.forall_mem_cons.mpr ⟨⟨?_, ?_⟩, List.forall_mem_cons.mpr ⟨⟨?_, ?_⟩, fun _ y => absurd y List.not_mem_nil⟩⟩) (List.forall_mem_cons.mpr ⟨?_, List.forall_mem_cons.mpr ⟨?_, List.forall_mem_cons.mpr ⟨?_, List.forall_mem_cons.mpr ⟨?_, fun _ y => absurd y List.not_mem_nil⟩⟩⟩⟩)
      · have z0 : (0 : Int) ≤ (-1) + (1 * (ga h 2542 i2) + 0) := w _ (List.mem_cons_self)
        have z1 : (0 : Int) ≤ 1000000 + ((-1) * (ga h 2542 i2) + 0) := w _ (List.mem_cons_of_mem _ List.mem_cons_self)
        exact ⟨z0, z1⟩
      · exact (inZA (c := 2540))
      · show gz h (2540 + 0) (0 + (1 * i + 0)) = 0 + (1 * (ga h 2540 i) + 0)
        rw [show (0 + (1 * i + 0) : Int) = i by omega]
        have e0 : gz h (2540 + 0) (i) = (ga h 2540 i) := e0
        omega
      · exact (inZA (c := 2542))
      · show gz h (2542 + 0) (0 + (1 * i2 + 0)) = 0 + (1 * (ga h 2542 i2) + 0)
        rw [show (0 + (1 * i2 + 0) : Int) = i2 by omega]
        have e1 : gz h (2542 + 0) (i2) = (ga h 2542 i2) := e1
        omega
      · show (0 : Int) ≤ 0 + (1 * i + 0)
        omega
      · show (0 : Int) ≤ 7 + ((-1) * i + 0)
        omega
      · show (0 : Int) ≤ 0 + ((-4) * i + (1 * i2 + 0))
        omega
      · show (0 : Int) ≤ (-1) + (4 * i + (1 * (ga h 2540 i) + ((-1) * i2 + 0)))
        omega
    have cX18_hal : ∀ i : Int, 0 ≤ 0 + (1 * i + 0) → 0 ≤ 31 + ((-1) * i + 0) → 0 ≤ (-1) + (1 * (ga h 2546 i) + 0) → 0 ≤ (-1) + (1 * (ga h 2542 i) + 0) ∧ 0 ≤ 1000000 + ((-1) * (ga h 2542 i) + 0) := fun i g0 g1 g2 => by
      have w := J.2 zi_X18_hal (by decide +kernel)
      unfold zGl at w
      rw [(zG_is (by decide +kernel : (match zG.1 zi_X18_hal with
      | some x => zBeq x ([60001, 60002, 60003], [((2546, 2546, 1, 0), (2546, []), (0, [(60001, 1)]), (0, [(60002, 1)])), ((2542, 2542, 1, 0), (2542, []), (0, [(60001, 1)]), (0, [(60003, 1)]))], [(0, [(60001, 1)]), (31, [(60001, (-1))]), ((-1), [(60002, 1)])], [((-1), [(60003, 1)]), (1000000, [(60003, (-1))])])
      | none => false) = true))] at w
      have e0 : gz h 2546 i = ga h 2546 i := ga_gz (c := 2546) (by omega) (by omega)
      have e1 : gz h 2542 i = ga h 2542 i := ga_gz (c := 2542) (by omega) (by omega)
      have w := w (fun v => bif Nat.beq v 60002 then (ga h 2546 i) else bif Nat.beq v 60003 then (ga h 2542 i) else i) (fun v => bif Nat.beq v 60002 then (ga h 2546 i) else bif Nat.beq v 60003 then (ga h 2542 i) else i) (fun _ _ => rfl) (List.forall_mem_cons.mpr ⟨⟨?_, ?_⟩, List.forall_mem_cons.mpr ⟨⟨?_, ?_⟩, fun _ y => absurd y List.not_mem_nil⟩⟩) (List.forall_mem_cons.mpr ⟨?_, List.forall_mem_cons.mpr ⟨?_, List.forall_mem_cons.mpr ⟨?_, fun _ y => absurd y List.not_mem_nil⟩⟩⟩)
      · have z0 : (0 : Int) ≤ (-1) + (1 * (ga h 2542 i) + 0) := w _ (List.mem_cons_self)
        have z1 : (0 : Int) ≤ 1000000 + ((-1) * (ga h 2542 i) + 0) := w _ (List.mem_cons_of_mem _ List.mem_cons_self)
        exact ⟨z0, z1⟩
      · exact (inZA (c := 2546))
      · show gz h (2546 + 0) (0 + (1 * i + 0)) = 0 + (1 * (ga h 2546 i) + 0)
        rw [show (0 + (1 * i + 0) : Int) = i by omega]
        have e0 : gz h (2546 + 0) (i) = (ga h 2546 i) := e0
        omega
      · exact (inZA (c := 2542))
      · show gz h (2542 + 0) (0 + (1 * i + 0)) = 0 + (1 * (ga h 2542 i) + 0)
        rw [show (0 + (1 * i + 0) : Int) = i by omega]
        have e1 : gz h (2542 + 0) (i) = (ga h 2542 i) := e1
        omega
      · show (0 : Int) ≤ 0 + (1 * i + 0)
        omega
      · show (0 : Int) ≤ 31 + ((-1) * i + 0)
        omega
      · show (0 : Int) ≤ (-1) + (1 * (ga h 2546 i) + 0)
        omega
    have k0 := cX18_a_lines c (by omega) (by omega)
    have dX18_a_lines : ∀ i : Int, 0 ≤ 0 + (1 * i + 0) → 0 ≤ 7 + ((-1) * i + 0) → 0 ≤ 0 + (1 * (ga h' 2540 i) + 0) ∧ 0 ≤ 4 + ((-1) * (ga h' 2540 i) + 0) := fun i g0 g1 => by
      have a := cX18_a_lines i (by omega) (by omega)
      by_cases q : i = c
      · subst q
        omega
      · have b := e4 i (by omega) q
        omega
    have tX18_a_lines : zGl zG zi_X18_a_lines h' := by
      unfold zGl
      rw [(zG_is (by decide +kernel : (match zG.1 zi_X18_a_lines with
      | some x => zBeq x ([60001, 60002], [((2540, 2540, 1, 0), (2540, []), (0, [(60001, 1)]), (0, [(60002, 1)]))], [(0, [(60001, 1)]), (7, [(60001, (-1))])], [(0, [(60002, 1)]), (4, [(60002, (-1))])])
      | none => false) = true))]
      intro ρ β _ hE hG c hc
      have g0 : (0 : Int) ≤ 0 + (1 * β 60001 + 0) := hG _ (List.mem_cons_self)
      have g1 : (0 : Int) ≤ 7 + ((-1) * β 60001 + 0) := hG _ (List.mem_cons_of_mem _ List.mem_cons_self)
      have w0 : gz h' (2540 + 0) (0 + (1 * β 60001 + 0)) = 0 + (1 * β 60002 + 0) := (hE _ (List.mem_cons_self)).2
      rw [show (0 + (1 * β 60001 + 0) : Int) = β 60001 by omega] at w0
      have e0 : gz h' (2540 + 0) (β 60001) = ga h' 2540 (β 60001) := ga_gz (c := 2540) (i := β 60001) (by omega) (by omega)
      have e0 : β 60002 = ga h' 2540 (β 60001) := by have w : gz h' (2540 + 0) (β 60001) = 0 + (1 * β 60002 + 0) := w0; omega
      have d := dX18_a_lines (β 60001) (by omega) (by omega)
      simp only [List.mem_cons, List.not_mem_nil, or_false] at hc
      rcases hc with rfl | rfl
      · show (0 : Int) ≤ 0 + (1 * β 60002 + 0)
        omega
      · show (0 : Int) ≤ 4 + ((-1) * β 60002 + 0)
        omega
    have dX18_cyc : ∀ i i2 : Int, 0 ≤ 0 + (1 * i + 0) → 0 ≤ 7 + ((-1) * i + 0) → 0 ≤ 0 + ((-4) * i + (1 * i2 + 0)) → 0 ≤ (-1) + (4 * i + (1 * (ga h' 2540 i) + ((-1) * i2 + 0))) → 0 ≤ (-1) + (1 * (ga h' 2542 i2) + 0) ∧ 0 ≤ 1000000 + ((-1) * (ga h' 2542 i2) + 0) := fun i i2 g0 g1 g2 g3 => by
      by_cases q : i2 = 4 * c + ga h 2540 c
      · rw [q, e3]
        omega
      · have b := (e5 i2 (by omega) q).2
        by_cases r : i = c
        · subst r
          have a := cX18_cyc i i2 (by omega) (by omega) (by omega) (by omega)
          omega
        · have b2 := e4 i (by omega) r
          have a := cX18_cyc i i2 (by omega) (by omega) (by omega) (by omega)
          omega
    have tX18_cyc : zGl zG zi_X18_cyc h' := by
      unfold zGl
      rw [(zG_is (by decide +kernel : (match zG.1 zi_X18_cyc with
      | some x => zBeq x ([60001, 60002, 60003, 60004], [((2540, 2540, 1, 0), (2540, []), (0, [(60001, 1)]), (0, [(60002, 1)])), ((2542, 2542, 1, 0), (2542, []), (0, [(60004, 1)]), (0, [(60003, 1)]))], [(0, [(60001, 1)]), (7, [(60001, (-1))]), (0, [(60001, (-4)), (60004, 1)]), ((-1), [(60001, 4), (60002, 1), (60004, (-1))])], [((-1), [(60003, 1)]), (1000000, [(60003, (-1))])])
      | none => false) = true))]
      intro ρ β _ hE hG c hc
      have g0 : (0 : Int) ≤ 0 + (1 * β 60001 + 0) := hG _ (List.mem_cons_self)
      have g1 : (0 : Int) ≤ 7 + ((-1) * β 60001 + 0) := hG _ (List.mem_cons_of_mem _ List.mem_cons_self)
      have g2 : (0 : Int) ≤ 0 + ((-4) * β 60001 + (1 * β 60004 + 0)) := hG _ (List.mem_cons_of_mem _ (List.mem_cons_of_mem _ List.mem_cons_self))
      have g3 : (0 : Int) ≤ (-1) + (4 * β 60001 + (1 * β 60002 + ((-1) * β 60004 + 0))) := hG _ (List.mem_cons_of_mem _ (List.mem_cons_of_mem _ (List.mem_cons_of_mem _ List.mem_cons_self)))
      have w0 : gz h' (2540 + 0) (0 + (1 * β 60001 + 0)) = 0 + (1 * β 60002 + 0) := (hE _ (List.mem_cons_self)).2
      rw [show (0 + (1 * β 60001 + 0) : Int) = β 60001 by omega] at w0
      have e0 : gz h' (2540 + 0) (β 60001) = ga h' 2540 (β 60001) := ga_gz (c := 2540) (i := β 60001) (by omega) (by omega)
      have e0 : β 60002 = ga h' 2540 (β 60001) := by have w : gz h' (2540 + 0) (β 60001) = 0 + (1 * β 60002 + 0) := w0; omega
      have dl := dX18_a_lines (β 60001) (by omega) (by omega)
      have w1 : gz h' (2542 + 0) (0 + (1 * β 60004 + 0)) = 0 + (1 * β 60003 + 0) := (hE _ (List.mem_cons_of_mem _ List.mem_cons_self)).2
      rw [show (0 + (1 * β 60004 + 0) : Int) = β 60004 by omega] at w1
      have e1 : gz h' (2542 + 0) (β 60004) = ga h' 2542 (β 60004) := ga_gz (c := 2542) (i := β 60004) (by omega) (by omega)
      have e1 : β 60003 = ga h' 2542 (β 60004) := by have w : gz h' (2542 + 0) (β 60004) = 0 + (1 * β 60003 + 0) := w1; omega
      have d := dX18_cyc (β 60001) (β 60004) (by omega) (by omega) (by omega) (by omega)
      simp only [List.mem_cons, List.not_mem_nil, or_false] at hc
      rcases hc with rfl | rfl
      · show (0 : Int) ≤ (-1) + (1 * β 60003 + 0)
        omega
      · show (0 : Int) ≤ 1000000 + ((-1) * β 60003 + 0)
        omega
    have dX18_hal : ∀ i : Int, 0 ≤ 0 + (1 * i + 0) → 0 ≤ 31 + ((-1) * i + 0) → 0 ≤ (-1) + (1 * (ga h' 2546 i) + 0) → 0 ≤ (-1) + (1 * (ga h' 2542 i) + 0) ∧ 0 ≤ 1000000 + ((-1) * (ga h' 2542 i) + 0) := fun i g0 g1 g2 => by
      have w6 := o.ga (d := 2546) (by decide) i
      by_cases q : i = 4 * c + ga h 2540 c
      · rw [q, e3]
        omega
      · have b := (e5 i (by omega) q).2
        have a := cX18_hal i (by omega) (by omega) (by omega)
        omega
    have tX18_hal : zGl zG zi_X18_hal h' := by
      unfold zGl
      rw [(zG_is (by decide +kernel : (match zG.1 zi_X18_hal with
      | some x => zBeq x ([60001, 60002, 60003], [((2546, 2546, 1, 0), (2546, []), (0, [(60001, 1)]), (0, [(60002, 1)])), ((2542, 2542, 1, 0), (2542, []), (0, [(60001, 1)]), (0, [(60003, 1)]))], [(0, [(60001, 1)]), (31, [(60001, (-1))]), ((-1), [(60002, 1)])], [((-1), [(60003, 1)]), (1000000, [(60003, (-1))])])
      | none => false) = true))]
      intro ρ β _ hE hG c hc
      have g0 : (0 : Int) ≤ 0 + (1 * β 60001 + 0) := hG _ (List.mem_cons_self)
      have g1 : (0 : Int) ≤ 31 + ((-1) * β 60001 + 0) := hG _ (List.mem_cons_of_mem _ List.mem_cons_self)
      have g2 : (0 : Int) ≤ (-1) + (1 * β 60002 + 0) := hG _ (List.mem_cons_of_mem _ (List.mem_cons_of_mem _ List.mem_cons_self))
      have w0 : gz h' (2546 + 0) (0 + (1 * β 60001 + 0)) = 0 + (1 * β 60002 + 0) := (hE _ (List.mem_cons_self)).2
      rw [show (0 + (1 * β 60001 + 0) : Int) = β 60001 by omega] at w0
      have e0 : gz h' (2546 + 0) (β 60001) = ga h' 2546 (β 60001) := ga_gz (c := 2546) (i := β 60001) (by omega) (by omega)
      have e0 : β 60002 = ga h' 2546 (β 60001) := by have w : gz h' (2546 + 0) (β 60001) = 0 + (1 * β 60002 + 0) := w0; omega
      have w1 : gz h' (2542 + 0) (0 + (1 * β 60001 + 0)) = 0 + (1 * β 60003 + 0) := (hE _ (List.mem_cons_of_mem _ List.mem_cons_self)).2
      rw [show (0 + (1 * β 60001 + 0) : Int) = β 60001 by omega] at w1
      have e1 : gz h' (2542 + 0) (β 60001) = ga h' 2542 (β 60001) := ga_gz (c := 2542) (i := β 60001) (by omega) (by omega)
      have e1 : β 60003 = ga h' 2542 (β 60001) := by have w : gz h' (2542 + 0) (β 60001) = 0 + (1 * β 60003 + 0) := w1; omega
      have d := dX18_hal (β 60001) (by omega) (by omega) (by omega)
      simp only [List.mem_cons, List.not_mem_nil, or_false] at hc
      rcases hc with rfl | rfl
      · show (0 : Int) ≤ (-1) + (1 * β 60003 + 0)
        omega
      · show (0 : Int) ≤ 1000000 + ((-1) * β 60003 + 0)
        omega
    refine ⟨S, fun k hk => ?_⟩
    have b := List.all_eq_true.mp zJ_l18 k hk
    rcases (Bool.or_eq_true _ _).mp b with e | b
    · rw [beqN e]
      exact tX18_a_lines
    · rcases (Bool.or_eq_true _ _).mp b with e | b
      · rw [beqN e]
        exact tX18_cyc
      · rcases (Bool.or_eq_true _ _).mp b with e | b
        · rw [beqN e]
          exact tX18_hal
        · exact zGl_kp F J.1.1.1 (List.all_eq_true.mp zJ_pos k hk) b (J.2 k hk)
  · exact J
theorem JJ.ln18 {h : MH} (J : JJ zJ h) : ∀ j : Int, 0 ≤ j → j < 8 → 0 ≤ ga h 2540 j ∧ ga h 2540 j ≤ 4 := by
  have cX18_a_lines : ∀ i : Int, 0 ≤ 0 + (1 * i + 0) → 0 ≤ 7 + ((-1) * i + 0) → 0 ≤ 0 + (1 * (ga h 2540 i) + 0) ∧ 0 ≤ 4 + ((-1) * (ga h 2540 i) + 0) := fun i g0 g1 => by
    have w := J.2 zi_X18_a_lines (by decide +kernel)
    unfold zGl at w
    rw [(zG_is (by decide +kernel : (match zG.1 zi_X18_a_lines with
      | some x => zBeq x ([60001, 60002], [((2540, 2540, 1, 0), (2540, []), (0, [(60001, 1)]), (0, [(60002, 1)]))], [(0, [(60001, 1)]), (7, [(60001, (-1))])], [(0, [(60002, 1)]), (4, [(60002, (-1))])])
      | none => false) = true))] at w
    have e0 : gz h 2540 i = ga h 2540 i := ga_gz (c := 2540) (by omega) (by omega)
    have w := w (fun v => bif Nat.beq v 60002 then (ga h 2540 i) else i) (fun v => bif Nat.beq v 60002 then (ga h 2540 i) else i) (fun _ _ => rfl) (List.forall_mem_cons.mpr ⟨⟨?_, ?_⟩, fun _ y => absurd y List.not_mem_nil⟩) (List.forall_mem_cons.mpr ⟨?_, List.forall_mem_cons.mpr ⟨?_, fun _ y => absurd y List.not_mem_nil⟩⟩)
    · have z0 : (0 : Int) ≤ 0 + (1 * (ga h 2540 i) + 0) := w _ (List.mem_cons_self)
      have z1 : (0 : Int) ≤ 4 + ((-1) * (ga h 2540 i) + 0) := w _ (List.mem_cons_of_mem _ List.mem_cons_self)
      exact ⟨z0, z1⟩
    · exact (inZA (c := 2540))
    · show gz h (2540 + 0) (0 + (1 * i + 0)) = 0 + (1 * (ga h 2540 i) + 0)
      rw [show (0 + (1 * i + 0) : Int) = i by omega]
      have e0 : gz h (2540 + 0) (i) = (ga h 2540 i) := e0
      omega
    · show (0 : Int) ≤ 0 + (1 * i + 0)
      omega
    · show (0 : Int) ≤ 7 + ((-1) * i + 0)
      omega
  intro j j0 j8
  have := cX18_a_lines j (by omega) (by omega)
  omega
