/-! from the walks by hand to the contracts: X18 -/
def ct_X18_shareOf : ZCt := (711, [(2, (2534, [])), (0, (0, [(0, 1)])), (0, (0, [(1, 1)])), (1, (0, [(2, 1)]))], [], [(0, [(0, 1)]), (7, [(1, (-1))])], [zi_X18_f_mends, zi_X18_f_above, zi_X18_f_below, zi_X18_f_crackSteps, zi_X18_count, zi_X18_a_lines, zi_X18_cyc, zi_X18_hal], [(2546, 2546, 1, 0), (2547, 2547, 1, 0), (2548, 2548, 1, 0), (2549, 2549, 1, 0)], none, [], [], [], [zi_X18_hal], [], [], 0, 0, [])
set_option maxRecDepth 100000 in
set_option maxHeartbeats 4000000 in
theorem ok_X18_shareOf : CtOk zG zT ct_X18_shareOf := by
  refine ⟨by decide +kernel, fun q hq ρ h st hE hF hV _ => ?_⟩
  cases (show some ((KX18_shareOf, yX18_shareOf, 18, 3, 0) : MR) = some q from hq)
  have eA : ((kA ct_X18_shareOf).map fun q => (q.1, zv ρ q.2) : List MV) = [(2, ((2534 : Nat) : Int)), (0, ρ 0), (0, ρ 1), (1, ρ 2)] := by
    show ([(2, 2534 + 0), (0, 0 + (1 * ρ 0 + 0)), (0, 0 + (1 * ρ 1 + 0)), (1, 0 + (1 * ρ 2 + 0))] : List MV) = _
    simp only [Int.add_zero, Int.zero_add, Int.one_mul]
    rfl
  show MCal KX18_shareOf yX18_shareOf _ _ _ h _
  rw [eA]
  have f0 : (0 : Int) ≤ 0 + (1 * ρ 0 + 0) := hF _ (List.mem_of_getElem? (i := 0) rfl)
  have f1 : (0 : Int) ≤ 7 + ((-1) * ρ 1 + 0) := hF _ (List.mem_of_getElem? (i := 1) rfl)
  have k := ok_X18_countHalves.2 _ rfl ρ h st (fun _ y => absurd y List.not_mem_nil) hF hV (fun _ y => absurd y List.not_mem_nil)
  have eB : ((kA ct_X18_countHalves).map fun q => (q.1, zv ρ q.2) : List MV) = [(2, ((2534 : Nat) : Int)), (0, ρ 0), (0, ρ 1)] := by
    show ([(2, 2534 + 0), (0, 0 + (1 * ρ 0 + 0)), (0, 0 + (1 * ρ 1 + 0))] : List MV) = _
    simp only [Int.add_zero, Int.zero_add, Int.one_mul]
    rfl
  rw [eB] at k
  have k : MCal KX18_countHalves yX18_countHalves 0 0 [(2, ((2534 : Nat) : Int)), (0, ρ 0), (0, ρ 1)] h (Qct zG zT ct_X18_countHalves ρ h) := k
  refine MCal.mono (fun o h' w => ?_) (h_X18_shareOf (fi := ρ 0) (la := ρ 1) (mn := ρ 2) (h := h) (R := fun x => StrZ zT x ∧ Frm (kMd ct_X18_countHalves) h x ∧ zGl zG zi_X18_hal x) (fun x r => ⟨str_of (by decide +kernel) r.1, fun k k0 k1 q => ?_⟩) (MCal.mono (fun o h' w => ?_) k) (str_of (by decide +kernel) st))
  rotate_left
  · have r3 := r.2.2
    have cX18_hal : ∀ i : Int, 0 ≤ 0 + (1 * i + 0) → 0 ≤ 31 + ((-1) * i + 0) → 0 ≤ (-1) + (1 * (ga x 2546 i) + 0) → 0 ≤ (-1) + (1 * (ga x 2542 i) + 0) ∧ 0 ≤ 1000000 + ((-1) * (ga x 2542 i) + 0) := fun i g0 g1 g2 => by
      have w := r3
      unfold zGl at w
      rw [(zG_is (by decide +kernel : (match zG.1 zi_X18_hal with
      | some x => zBeq x ([60001, 60002, 60003], [((2546, 2546, 1, 0), (2546, []), (0, [(60001, 1)]), (0, [(60002, 1)])), ((2542, 2542, 1, 0), (2542, []), (0, [(60001, 1)]), (0, [(60003, 1)]))], [(0, [(60001, 1)]), (31, [(60001, (-1))]), ((-1), [(60002, 1)])], [((-1), [(60003, 1)]), (1000000, [(60003, (-1))])])
      | none => false) = true))] at w
      have e0 : gz x 2546 i = ga x 2546 i := ga_gz (c := 2546) (by omega) (by omega)
      have e1 : gz x 2542 i = ga x 2542 i := ga_gz (c := 2542) (by omega) (by omega)
      have w := w (fun v => bif Nat.beq v 60002 then (ga x 2546 i) else bif Nat.beq v 60003 then (ga x 2542 i) else i) (fun v => bif Nat.beq v 60002 then (ga x 2546 i) else bif Nat.beq v 60003 then (ga x 2542 i) else i) (fun _ _ => rfl) (List.forall_mem_cons.mpr ⟨⟨?_, ?_⟩, List.forall_mem_cons.mpr ⟨⟨?_, ?_⟩, fun _ y => absurd y List.not_mem_nil⟩⟩) (List.forall_mem_cons.mpr ⟨?_, List.forall_mem_cons.mpr ⟨?_, List.forall_mem_cons.mpr ⟨?_, fun _ y => absurd y List.not_mem_nil⟩⟩⟩)
      · have z0 : (0 : Int) ≤ (-1) + (1 * (ga x 2542 i) + 0) := w _ (List.mem_cons_self)
        have z1 : (0 : Int) ≤ 1000000 + ((-1) * (ga x 2542 i) + 0) := w _ (List.mem_cons_of_mem _ List.mem_cons_self)
        exact ⟨z0, z1⟩
      · exact (inZA (c := 2546))
      · show gz x (2546 + 0) (0 + (1 * i + 0)) = 0 + (1 * (ga x 2546 i) + 0)
        rw [show (0 + (1 * i + 0) : Int) = i by omega]
        have e0 : gz x (2546 + 0) (i) = (ga x 2546 i) := e0
        omega
      · exact (inZA (c := 2542))
      · show gz x (2542 + 0) (0 + (1 * i + 0)) = 0 + (1 * (ga x 2542 i) + 0)
        rw [show (0 + (1 * i + 0) : Int) = i by omega]
        have e1 : gz x (2542 + 0) (i) = (ga x 2542 i) := e1
        omega
      · show (0 : Int) ≤ 0 + (1 * i + 0)
        omega
      · show (0 : Int) ≤ 31 + ((-1) * i + 0)
        omega
      · show (0 : Int) ≤ (-1) + (1 * (ga x 2546 i) + 0)
        omega
    have a := cX18_hal k (by omega) (by omega) (by omega)
    omega
  · obtain ⟨ρ', e1, e2, e3, e4, e5, e6, e7, e8, e9⟩ := w
    exact ⟨e2, e3, e4, e8 _ List.mem_cons_self⟩
  obtain ⟨o1, h0, ⟨s0, F0, hl0⟩, oo, du, dl⟩ := w
  have F1 : Frm [(2547, 2547, 1, 0), (2548, 2548, 1, 0), (2549, 2549, 1, 0)] h0 h' := by
    refine frm_only oo fun c hc j n => ?_
    simp only [List.mem_cons, List.not_mem_nil, or_false] at hc
    rcases hc with rfl | rfl | rfl
    · exact absurd inZA (n _ List.mem_cons_self)
    · exact absurd inZA (n _ (List.mem_cons_of_mem _ List.mem_cons_self))
    · exact absurd inZA (n _ (List.mem_cons_of_mem _ (List.mem_cons_of_mem _ List.mem_cons_self)))
  have F : Frm (kMd ct_X18_shareOf) h h' := Frm.trans (F0.mono (by decide +kernel)) (F1.mono (by decide +kernel))
  have S : StrZ zT h' := by
    refine strz_only s0 oo (fun c hc j n => ?_) (fun c hc => ?_)
    · simp only [List.mem_cons, List.not_mem_nil, or_false] at hc
      rcases hc with rfl | rfl | rfl <;> exact absurd rfl n
    · simp only [List.mem_cons, List.not_mem_nil, or_false] at hc
      rcases hc with rfl | rfl | rfl <;> rfl
  have cX18_hal : ∀ i : Int, 0 ≤ 0 + (1 * i + 0) → 0 ≤ 31 + ((-1) * i + 0) → 0 ≤ (-1) + (1 * (ga h0 2546 i) + 0) → 0 ≤ (-1) + (1 * (ga h0 2542 i) + 0) ∧ 0 ≤ 1000000 + ((-1) * (ga h0 2542 i) + 0) := fun i g0 g1 g2 => by
    have w := hl0
    unfold zGl at w
    rw [(zG_is (by decide +kernel : (match zG.1 zi_X18_hal with
      | some x => zBeq x ([60001, 60002, 60003], [((2546, 2546, 1, 0), (2546, []), (0, [(60001, 1)]), (0, [(60002, 1)])), ((2542, 2542, 1, 0), (2542, []), (0, [(60001, 1)]), (0, [(60003, 1)]))], [(0, [(60001, 1)]), (31, [(60001, (-1))]), ((-1), [(60002, 1)])], [((-1), [(60003, 1)]), (1000000, [(60003, (-1))])])
      | none => false) = true))] at w
    have e0 : gz h0 2546 i = ga h0 2546 i := ga_gz (c := 2546) (by omega) (by omega)
    have e1 : gz h0 2542 i = ga h0 2542 i := ga_gz (c := 2542) (by omega) (by omega)
    have w := w (fun v => bif Nat.beq v 60002 then (ga h0 2546 i) else bif Nat.beq v 60003 then (ga h0 2542 i) else i) (fun v => bif Nat.beq v 60002 then (ga h0 2546 i) else bif Nat.beq v 60003 then (ga h0 2542 i) else i) (fun _ _ => rfl) (List.forall_mem_cons.mpr ⟨⟨?_, ?_⟩, List.forall_mem_cons.mpr ⟨⟨?_, ?_⟩, fun _ y => absurd y List.not_mem_nil⟩⟩) (List.forall_mem_cons.mpr ⟨?_, List.forall_mem_cons.mpr ⟨?_, List.forall_mem_cons.mpr ⟨?_, fun _ y => absurd y List.not_mem_nil⟩⟩⟩)
    · have z0 : (0 : Int) ≤ (-1) + (1 * (ga h0 2542 i) + 0) := w _ (List.mem_cons_self)
      have z1 : (0 : Int) ≤ 1000000 + ((-1) * (ga h0 2542 i) + 0) := w _ (List.mem_cons_of_mem _ List.mem_cons_self)
      exact ⟨z0, z1⟩
    · exact (inZA (c := 2546))
    · show gz h0 (2546 + 0) (0 + (1 * i + 0)) = 0 + (1 * (ga h0 2546 i) + 0)
      rw [show (0 + (1 * i + 0) : Int) = i by omega]
      have e0 : gz h0 (2546 + 0) (i) = (ga h0 2546 i) := e0
      omega
    · exact (inZA (c := 2542))
    · show gz h0 (2542 + 0) (0 + (1 * i + 0)) = 0 + (1 * (ga h0 2542 i) + 0)
      rw [show (0 + (1 * i + 0) : Int) = i by omega]
      have e1 : gz h0 (2542 + 0) (i) = (ga h0 2542 i) := e1
      omega
    · show (0 : Int) ≤ 0 + (1 * i + 0)
      omega
    · show (0 : Int) ≤ 31 + ((-1) * i + 0)
      omega
    · show (0 : Int) ≤ (-1) + (1 * (ga h0 2546 i) + 0)
      omega
  have dX18_hal : ∀ i : Int, 0 ≤ 0 + (1 * i + 0) → 0 ≤ 31 + ((-1) * i + 0) → 0 ≤ (-1) + (1 * (ga h' 2546 i) + 0) → 0 ≤ (-1) + (1 * (ga h' 2542 i) + 0) ∧ 0 ≤ 1000000 + ((-1) * (ga h' 2542 i) + 0) := fun i g0 g1 g2 => by
    rw [oo.ga (by decide)] at g2 ⊢
    exact cX18_hal i g0 g1 g2
  have tX18_hal : zGl zG zi_X18_hal h' := by
    unfold zGl
    rw [(zG_is (by decide +kernel : (match zG.1 zi_X18_hal with
      | some x => zBeq x ([60001, 60002, 60003], [((2546, 2546, 1, 0), (2546, []), (0, [(60001, 1)]), (0, [(60002, 1)])), ((2542, 2542, 1, 0), (2542, []), (0, [(60001, 1)]), (0, [(60003, 1)]))], [(0, [(60001, 1)]), (31, [(60001, (-1))]), ((-1), [(60002, 1)])], [((-1), [(60003, 1)]), (1000000, [(60003, (-1))])])
      | none => false) = true))]
    intro ρ β _ hE hG c hc
    have g0 : (0 : Int) ≤ 0 + (1 * β 60001 + 0) := hG _ (List.mem_cons_self)
    have g1 : (0 : Int) ≤ 31 + ((-1) * β 60001 + 0) := hG _ (List.mem_cons_of_mem _ List.mem_cons_self)
    have g2 : (0 : Int) ≤ (-1) + (1 * β 60002 + 0) := hG _ (List.mem_cons_of_mem _ (List.mem_cons_of_mem _ List.mem_cons_self))
    have w0 : gz h' (2546 + 0) (0 + (1 * β 60001 + 0)) = 0 + (1 * β 60002 + 0) := (hE _ (List.mem_cons_self)).2
    rw [show (0 + (1 * β 60001 + 0) : Int) = β 60001 by omega] at w0
    have e0 : gz h' (2546 + 0) (β 60001) = ga h' 2546 (β 60001) := ga_gz (c := 2546) (i := β 60001) (by omega) (by omega)
    have e0 : β 60002 = ga h' 2546 (β 60001) := by have w : gz h' (2546 + 0) (β 60001) = 0 + (1 * β 60002 + 0) := w0; omega
    have w1 : gz h' (2542 + 0) (0 + (1 * β 60001 + 0)) = 0 + (1 * β 60003 + 0) := (hE _ (List.mem_cons_of_mem _ List.mem_cons_self)).2
    rw [show (0 + (1 * β 60001 + 0) : Int) = β 60001 by omega] at w1
    have e1 : gz h' (2542 + 0) (β 60001) = ga h' 2542 (β 60001) := ga_gz (c := 2542) (i := β 60001) (by omega) (by omega)
    have e1 : β 60003 = ga h' 2542 (β 60001) := by have w : gz h' (2542 + 0) (β 60001) = 0 + (1 * β 60003 + 0) := w1; omega
    have d := dX18_hal (β 60001) (by omega) (by omega) (by omega)
    simp only [List.mem_cons, List.not_mem_nil, or_false] at hc
    rcases hc with rfl | rfl
    · show (0 : Int) ≤ (-1) + (1 * β 60003 + 0)
      omega
    · show (0 : Int) ≤ 1000000 + ((-1) * β 60003 + 0)
      omega
  exact ⟨ρ, fun _ _ => rfl, o1, S, F, fun _ y => absurd y List.not_mem_nil, fun _ y => absurd y List.not_mem_nil, fun _ y => absurd y List.not_mem_nil, List.forall_mem_cons.mpr ⟨tX18_hal, fun _ y => absurd y List.not_mem_nil⟩, fun _ y => absurd y List.not_mem_nil⟩
def ct_X18_inspect : ZCt := (732, [(2, (2534, [])), (0, (0, [(0, 1)]))], [], [], [zi_X18_f_mends, zi_X18_f_above, zi_X18_f_below, zi_X18_f_crackSteps, zi_X18_count, zi_X18_a_lines, zi_X18_cyc, zi_X18_hal], [(2550, 2550, 1, 0)], some (0, 200), [], [], [], [], [], [], 0, 0, [])
set_option maxRecDepth 100000 in
set_option maxHeartbeats 4000000 in
theorem ok_X18_inspect : CtOk zG zT ct_X18_inspect := by
  refine ⟨by decide +kernel, fun q hq ρ h st hE hF hV _ => ?_⟩
  cases (show some ((KX18_inspect, yX18_inspect, 18, 1, 0) : MR) = some q from hq)
  have eA : ((kA ct_X18_inspect).map fun q => (q.1, zv ρ q.2) : List MV) = [(2, ((2534 : Nat) : Int)), (0, ρ 0)] := by
    show ([(2, 2534 + 0), (0, 0 + (1 * ρ 0 + 0))] : List MV) = _
    simp only [Int.add_zero, Int.zero_add, Int.one_mul]
    rfl
  show MCal KX18_inspect yX18_inspect _ _ _ h _
  rw [eA]
  refine MCal.mono (fun o h' w => ?_) (h_X18_inspect (n := ρ 0) (h := h) (str_of (by decide +kernel) st))
  obtain ⟨o1, o2, oo⟩ := w
  have F : Frm (kMd ct_X18_inspect) h h' := by
    refine frm_only oo fun c hc j n => ?_
    rw [List.mem_singleton.mp hc] at n ⊢
    exact absurd inZA (n _ List.mem_cons_self)
  have S : StrZ zT h' := by
    refine strz_only st oo (fun c hc j n => ?_) (fun c hc => ?_)
    · rw [List.mem_singleton.mp hc] at n
      exact absurd rfl n
    · rw [List.mem_singleton.mp hc]
      rfl
  refine ⟨fun v => if v < 200 then ρ v else o.2.2, by exact fun v hv => if_pos (bltN (List.all_eq_true.mp (show (cAv ct_X18_inspect).all (fun v => Nat.blt v 200) = true by decide +kernel) v (zmem_of hv))), ⟨o1, Prod.ext o2 rfl⟩, S, F, fun _ y => absurd y List.not_mem_nil, fun _ y => absurd y List.not_mem_nil, fun _ y => absurd y List.not_mem_nil, fun _ y => absurd y List.not_mem_nil, fun _ y => absurd y List.not_mem_nil⟩
