/-! from the walks by hand to the contracts: X19 -/
theorem zref19 : ∀ j, zRef 2514 j ≠ 0 → ∃ n, (2514, j, n) ∈ r19 := by
  intro j hj
  by_cases l : j < 40
  · have w := (by decide +kernel : ∀ j : Nat, j < 40 → (zRef 2514 j = 0 ∨ (r19.any fun q => Nat.beq q.1 2514 && Nat.beq q.2.1 j) = true)) j l
    rcases w with w | w
    · exact absurd w hj
    · obtain ⟨q, hq, e⟩ := List.any_eq_true.mp w
      obtain ⟨e1, e2⟩ := andB e
      have e1 := beqN e1
      have e2 := beqN e2
      obtain ⟨a, b, c⟩ := q
      have e1 : a = 2514 := e1
      have e2 : b = j := e2
      subst e1
      subst e2
      exact ⟨c, hq⟩
  · obtain ⟨k, rfl⟩ : ∃ k, j = k + 40 := ⟨j - 40, by omega⟩
    exact absurd rfl hj
theorem ends19 {h h' : MH} (st : StrZ zT h) (o : Only C19 h h') (g' : Str t19 r19 h') : StrZ zT h' ∧ Frm [(2514, 2533, 0, 1099511627775)] h h' := by
  refine ⟨strz_str (c0 := 2514) st o (str_of (by decide +kernel) st) g' (fun c hc n j => ?_) zref19 (fun c hc => ?_), frm_only2 o fun c hc j jb n => ?_⟩
  · simp only [List.mem_cons, List.not_mem_nil, or_false] at hc
    rcases hc with rfl | rfl | rfl | rfl | rfl | rfl | rfl | rfl | rfl | rfl | rfl | rfl | rfl | rfl | rfl | rfl | rfl | rfl | rfl | rfl
    · exact absurd rfl n
    all_goals rfl
  · simp only [List.mem_cons, List.not_mem_nil, or_false] at hc
    rcases hc with rfl | rfl | rfl | rfl | rfl | rfl | rfl | rfl | rfl | rfl | rfl | rfl | rfl | rfl | rfl | rfl | rfl | rfl | rfl | rfl <;> rfl
  · refine absurd ?_ (n _ List.mem_cons_self)
    have hb : 2514 ≤ c ∧ c ≤ 2533 := by
      simp only [List.mem_cons, List.not_mem_nil, or_false] at hc
      omega
    exact ⟨⟨by show (2514 : Int) ≤ (c : Int); omega, Or.inr (by show (c : Int) ≤ 2533; omega)⟩, Or.inr ⟨by show (0 : Int) ≤ (j : Int); omega, by show (j : Int) ≤ 1099511627775; omega⟩⟩
def ct_X19_row : ZCt := (759, [(2, (2514, [])), (1, (0, [(0, 1)])), (1, (0, [(1, 1)])), (1, (0, [(2, 1)]))], [], [], [3], [(2514, 2533, 0, 1099511627775)], some (0, 200), [], [(0, [(200, 1)]), (1, [(200, (-1))])], [], [3], [], [], 0, 0, [])
set_option maxRecDepth 100000 in
set_option maxHeartbeats 4000000 in
theorem ok_X19_row : CtOk zG zT ct_X19_row := by
  refine ⟨by decide +kernel, fun q hq ρ h st hE hF hV _ => ?_⟩
  cases (show some ((KX19_row, yX19_row, 19, 3, 0) : MR) = some q from hq)
  have eA : ((kA ct_X19_row).map fun q => (q.1, zv ρ q.2) : List MV) = [(2, ((2514 : Nat) : Int)), (1, ρ 0), (1, ρ 1), (1, ρ 2)] := by
    show ([(2, 2514 + 0), (1, 0 + (1 * ρ 0 + 0)), (1, 0 + (1 * ρ 1 + 0)), (1, 0 + (1 * ρ 2 + 0))] : List MV) = _
    simp only [Int.add_zero, Int.zero_add, Int.one_mul]
    rfl
  show MCal KX19_row yX19_row _ _ _ h _
  rw [eA]
  obtain ⟨cn, jj⟩ : ∃ cn : Int, J19 h cn := hV 3 (List.mem_of_getElem? (i := 0) rfl)
  have gg := (str_of (by decide +kernel) st : Str t19 r19 h)
  refine MCal.mono (fun o h' w => ?_) (h_X19_row jj gg)
  obtain ⟨o1, o2, w⟩ := w
  obtain ⟨w1, w⟩ := w
  obtain ⟨oo, ⟨c2, j2⟩, g2⟩ := w
  obtain ⟨S, F⟩ := ends19 st oo g2
  refine ⟨fun v => if v < 200 then ρ v else o.2.2, by exact fun v hv => if_pos (bltN (List.all_eq_true.mp (show (cAv ct_X19_row).all (fun v => Nat.blt v 200) = true by decide +kernel) v (zmem_of hv))), ⟨o1, Prod.ext o2 rfl⟩, S, F, fun _ y => absurd y List.not_mem_nil, ?_, ?_, List.forall_mem_cons.mpr ⟨⟨_, j2⟩, fun _ y => absurd y List.not_mem_nil⟩, fun _ y => absurd y List.not_mem_nil⟩
  · refine List.forall_mem_cons.mpr ⟨?_, List.forall_mem_cons.mpr ⟨?_, fun _ y => absurd y List.not_mem_nil⟩⟩
    · show (0 : Int) ≤ 0 + (1 * o.2.2 + 0)
      omega
    · show (0 : Int) ≤ 1 + ((-1) * o.2.2 + 0)
      omega
  · exact fun _ y => absurd y List.not_mem_nil
def ct_X19_train : ZCt := (763, [(2, (2514, []))], [], [], [3], [(2514, 2533, 0, 1099511627775)], some (0, 200), [], [], [], [3], [], [], 0, 0, [])
set_option maxRecDepth 100000 in
set_option maxHeartbeats 4000000 in
theorem ok_X19_train : CtOk zG zT ct_X19_train := by
  refine ⟨by decide +kernel, fun q hq ρ h st hE hF hV _ => ?_⟩
  cases (show some ((KX19_train, yX19_train, 19, 0, 0) : MR) = some q from hq)
  have eA : ((kA ct_X19_train).map fun q => (q.1, zv ρ q.2) : List MV) = [(2, ((2514 : Nat) : Int))] := by
    show ([(2, 2514 + 0)] : List MV) = _
    simp only [Int.add_zero, Int.zero_add, Int.one_mul]
    rfl
  show MCal KX19_train yX19_train _ _ _ h _
  rw [eA]
  obtain ⟨cn, jj⟩ : ∃ cn : Int, J19 h cn := hV 3 (List.mem_of_getElem? (i := 0) rfl)
  have gg := (str_of (by decide +kernel) st : Str t19 r19 h)
  refine MCal.mono (fun o h' w => ?_) (h_X19_train jj gg)
  obtain ⟨o1, o2, w⟩ := w
  obtain ⟨w1, w⟩ := w
  obtain ⟨oo, j2, g2⟩ := w
  obtain ⟨S, F⟩ := ends19 st oo g2
  refine ⟨fun v => if v < 200 then ρ v else o.2.2, by exact fun v hv => if_pos (bltN (List.all_eq_true.mp (show (cAv ct_X19_train).all (fun v => Nat.blt v 200) = true by decide +kernel) v (zmem_of hv))), ⟨o1, Prod.ext o2 rfl⟩, S, F, fun _ y => absurd y List.not_mem_nil, ?_, ?_, List.forall_mem_cons.mpr ⟨⟨_, j2⟩, fun _ y => absurd y List.not_mem_nil⟩, fun _ y => absurd y List.not_mem_nil⟩
  · exact fun _ y => absurd y List.not_mem_nil
  · exact fun _ y => absurd y List.not_mem_nil
def ct_X19_axle : ZCt := (764, [(2, (2514, [])), (0, (0, [(0, 1)])), (1, (0, [(1, 1)])), (1, (0, [(2, 1)]))], [], [], [3], [(2514, 2533, 0, 1099511627775)], some (0, 200), [], [(0, [(200, 1)]), (1, [(200, (-1))])], [], [3], [], [], 0, 0, [])
set_option maxRecDepth 100000 in
set_option maxHeartbeats 4000000 in
theorem ok_X19_axle : CtOk zG zT ct_X19_axle := by
  refine ⟨by decide +kernel, fun q hq ρ h st hE hF hV _ => ?_⟩
  cases (show some ((KX19_axle, yX19_axle, 19, 3, 0) : MR) = some q from hq)
  have eA : ((kA ct_X19_axle).map fun q => (q.1, zv ρ q.2) : List MV) = [(2, ((2514 : Nat) : Int)), (0, ρ 0), (1, ρ 1), (1, ρ 2)] := by
    show ([(2, 2514 + 0), (0, 0 + (1 * ρ 0 + 0)), (1, 0 + (1 * ρ 1 + 0)), (1, 0 + (1 * ρ 2 + 0))] : List MV) = _
    simp only [Int.add_zero, Int.zero_add, Int.one_mul]
    rfl
  show MCal KX19_axle yX19_axle _ _ _ h _
  rw [eA]
  obtain ⟨cn, jj⟩ : ∃ cn : Int, J19 h cn := hV 3 (List.mem_of_getElem? (i := 0) rfl)
  have gg := (str_of (by decide +kernel) st : Str t19 r19 h)
  refine MCal.mono (fun o h' w => ?_) (h_X19_axle jj gg)
  obtain ⟨o1, o2, w⟩ := w
  obtain ⟨w1, w⟩ := w
  obtain ⟨oo, j2, g2⟩ := w
  obtain ⟨S, F⟩ := ends19 st oo g2
  refine ⟨fun v => if v < 200 then ρ v else o.2.2, by exact fun v hv => if_pos (bltN (List.all_eq_true.mp (show (cAv ct_X19_axle).all (fun v => Nat.blt v 200) = true by decide +kernel) v (zmem_of hv))), ⟨o1, Prod.ext o2 rfl⟩, S, F, fun _ y => absurd y List.not_mem_nil, ?_, ?_, List.forall_mem_cons.mpr ⟨⟨_, j2⟩, fun _ y => absurd y List.not_mem_nil⟩, fun _ y => absurd y List.not_mem_nil⟩
  · refine List.forall_mem_cons.mpr ⟨?_, List.forall_mem_cons.mpr ⟨?_, fun _ y => absurd y List.not_mem_nil⟩⟩
    · show (0 : Int) ≤ 0 + (1 * o.2.2 + 0)
      omega
    · show (0 : Int) ≤ 1 + ((-1) * o.2.2 + 0)
      omega
  · exact fun _ y => absurd y List.not_mem_nil
def ct_X19_gap : ZCt := (765, [(2, (2514, [])), (0, (0, [(0, 1)])), (1, (0, [(1, 1)])), (1, (0, [(2, 1)]))], [], [], [3], [(2514, 2533, 0, 1099511627775)], some (0, 200), [], [(0, [(200, 1)]), (1, [(200, (-1))])], [], [3], [], [], 0, 0, [])
set_option maxRecDepth 100000 in
set_option maxHeartbeats 4000000 in
theorem ok_X19_gap : CtOk zG zT ct_X19_gap := by
  refine ⟨by decide +kernel, fun q hq ρ h st hE hF hV _ => ?_⟩
  cases (show some ((KX19_gap, yX19_gap, 19, 3, 0) : MR) = some q from hq)
  have eA : ((kA ct_X19_gap).map fun q => (q.1, zv ρ q.2) : List MV) = [(2, ((2514 : Nat) : Int)), (0, ρ 0), (1, ρ 1), (1, ρ 2)] := by
    show ([(2, 2514 + 0), (0, 0 + (1 * ρ 0 + 0)), (1, 0 + (1 * ρ 1 + 0)), (1, 0 + (1 * ρ 2 + 0))] : List MV) = _
    simp only [Int.add_zero, Int.zero_add, Int.one_mul]
    rfl
  show MCal KX19_gap yX19_gap _ _ _ h _
  rw [eA]
  obtain ⟨cn, jj⟩ : ∃ cn : Int, J19 h cn := hV 3 (List.mem_of_getElem? (i := 0) rfl)
  have gg := (str_of (by decide +kernel) st : Str t19 r19 h)
  refine MCal.mono (fun o h' w => ?_) (h_X19_gap jj gg)
  obtain ⟨o1, o2, w⟩ := w
  obtain ⟨w1, w⟩ := w
  obtain ⟨oo, j2, g2⟩ := w
  obtain ⟨S, F⟩ := ends19 st oo g2
  refine ⟨fun v => if v < 200 then ρ v else o.2.2, by exact fun v hv => if_pos (bltN (List.all_eq_true.mp (show (cAv ct_X19_gap).all (fun v => Nat.blt v 200) = true by decide +kernel) v (zmem_of hv))), ⟨o1, Prod.ext o2 rfl⟩, S, F, fun _ y => absurd y List.not_mem_nil, ?_, ?_, List.forall_mem_cons.mpr ⟨⟨_, j2⟩, fun _ y => absurd y List.not_mem_nil⟩, fun _ y => absurd y List.not_mem_nil⟩
  · refine List.forall_mem_cons.mpr ⟨?_, List.forall_mem_cons.mpr ⟨?_, fun _ y => absurd y List.not_mem_nil⟩⟩
    · show (0 : Int) ≤ 0 + (1 * o.2.2 + 0)
      omega
    · show (0 : Int) ≤ 1 + ((-1) * o.2.2 + 0)
      omega
  · exact fun _ y => absurd y List.not_mem_nil
def ct_X19_run : ZCt := (769, [(2, (2514, [])), (0, (0, [(0, 1)])), (0, (0, [(1, 1)]))], [], [(0, [(1, 1)]), (1, [(1, (-1))])], [3], [(2514, 2533, 0, 1099511627775)], some (0, 200), [], [], [], [3], [], [], 0, 0, [])
set_option maxRecDepth 100000 in
set_option maxHeartbeats 4000000 in
theorem ok_X19_run : CtOk zG zT ct_X19_run := by
  refine ⟨by decide +kernel, fun q hq ρ h st hE hF hV _ => ?_⟩
  cases (show some ((KX19_run, yX19_run, 19, 2, 0) : MR) = some q from hq)
  have eA : ((kA ct_X19_run).map fun q => (q.1, zv ρ q.2) : List MV) = [(2, ((2514 : Nat) : Int)), (0, ρ 0), (0, ρ 1)] := by
    show ([(2, 2514 + 0), (0, 0 + (1 * ρ 0 + 0)), (0, 0 + (1 * ρ 1 + 0))] : List MV) = _
    simp only [Int.add_zero, Int.zero_add, Int.one_mul]
    rfl
  show MCal KX19_run yX19_run _ _ _ h _
  rw [eA]
  have f0 : (0 : Int) ≤ 0 + (1 * ρ 1 + 0) := hF _ (List.mem_of_getElem? (i := 0) rfl)
  have f1 : (0 : Int) ≤ 1 + ((-1) * ρ 1 + 0) := hF _ (List.mem_of_getElem? (i := 1) rfl)
  obtain ⟨cn, jj⟩ : ∃ cn : Int, J19 h cn := hV 3 (List.mem_of_getElem? (i := 0) rfl)
  have gg := (str_of (by decide +kernel) st : Str t19 r19 h)
  refine MCal.mono (fun o h' w => ?_) (h_X19_run (by omega) jj gg)
  obtain ⟨o1, o2, w⟩ := w
  obtain ⟨w1, w⟩ := w
  obtain ⟨oo, j2, g2⟩ := w
  obtain ⟨S, F⟩ := ends19 st oo g2
  refine ⟨fun v => if v < 200 then ρ v else o.2.2, by exact fun v hv => if_pos (bltN (List.all_eq_true.mp (show (cAv ct_X19_run).all (fun v => Nat.blt v 200) = true by decide +kernel) v (zmem_of hv))), ⟨o1, Prod.ext o2 rfl⟩, S, F, fun _ y => absurd y List.not_mem_nil, ?_, ?_, List.forall_mem_cons.mpr ⟨⟨_, j2⟩, fun _ y => absurd y List.not_mem_nil⟩, fun _ y => absurd y List.not_mem_nil⟩
  · exact fun _ y => absurd y List.not_mem_nil
  · exact fun _ y => absurd y List.not_mem_nil
def ct_X19_worst : ZCt := (772, [(2, (2514, [])), (0, (0, [(0, 1)]))], [], [], [3], [(2514, 2533, 0, 1099511627775)], some (1, 200), [], [], [], [3], [], [], 0, 0, [])
set_option maxRecDepth 100000 in
set_option maxHeartbeats 4000000 in
theorem ok_X19_worst : CtOk zG zT ct_X19_worst := by
  refine ⟨by decide +kernel, fun q hq ρ h st hE hF hV _ => ?_⟩
  cases (show some ((KX19_worst, yX19_worst, 19, 1, 0) : MR) = some q from hq)
  have eA : ((kA ct_X19_worst).map fun q => (q.1, zv ρ q.2) : List MV) = [(2, ((2514 : Nat) : Int)), (0, ρ 0)] := by
    show ([(2, 2514 + 0), (0, 0 + (1 * ρ 0 + 0))] : List MV) = _
    simp only [Int.add_zero, Int.zero_add, Int.one_mul]
    rfl
  show MCal KX19_worst yX19_worst _ _ _ h _
  rw [eA]
  obtain ⟨cn, jj⟩ : ∃ cn : Int, J19 h cn := hV 3 (List.mem_of_getElem? (i := 0) rfl)
  have gg := (str_of (by decide +kernel) st : Str t19 r19 h)
  refine MCal.mono (fun o h' w => ?_) (h_X19_worst jj gg)
  obtain ⟨o1, o2, w⟩ := w
  obtain ⟨w1, w⟩ := w
  obtain ⟨oo, j2, g2⟩ := w
  obtain ⟨S, F⟩ := ends19 st oo g2
  refine ⟨fun v => if v < 200 then ρ v else o.2.2, by exact fun v hv => if_pos (bltN (List.all_eq_true.mp (show (cAv ct_X19_worst).all (fun v => Nat.blt v 200) = true by decide +kernel) v (zmem_of hv))), ⟨o1, Prod.ext o2 rfl⟩, S, F, fun _ y => absurd y List.not_mem_nil, ?_, ?_, List.forall_mem_cons.mpr ⟨⟨_, j2⟩, fun _ y => absurd y List.not_mem_nil⟩, fun _ y => absurd y List.not_mem_nil⟩
  · exact fun _ y => absurd y List.not_mem_nil
  · exact fun _ y => absurd y List.not_mem_nil
def ct_X19_place : ZCt := (773, [(2, (2514, [])), (0, (0, [(0, 1)]))], [], [], [3], [(2514, 2533, 0, 1099511627775)], some (1, 200), [], [], [], [3], [], [], 0, 0, [])
set_option maxRecDepth 100000 in
set_option maxHeartbeats 4000000 in
theorem ok_X19_place : CtOk zG zT ct_X19_place := by
  refine ⟨by decide +kernel, fun q hq ρ h st hE hF hV _ => ?_⟩
  cases (show some ((KX19_place, yX19_place, 19, 1, 0) : MR) = some q from hq)
  have eA : ((kA ct_X19_place).map fun q => (q.1, zv ρ q.2) : List MV) = [(2, ((2514 : Nat) : Int)), (0, ρ 0)] := by
    show ([(2, 2514 + 0), (0, 0 + (1 * ρ 0 + 0))] : List MV) = _
    simp only [Int.add_zero, Int.zero_add, Int.one_mul]
    rfl
  show MCal KX19_place yX19_place _ _ _ h _
  rw [eA]
  obtain ⟨cn, jj⟩ : ∃ cn : Int, J19 h cn := hV 3 (List.mem_of_getElem? (i := 0) rfl)
  have gg := (str_of (by decide +kernel) st : Str t19 r19 h)
  refine MCal.mono (fun o h' w => ?_) (h_X19_place jj.1 gg)
  obtain ⟨o1, o2, w⟩ := w
  subst w
  have oo : Only C19 h' h' := Only.refl _ _
  have j2 := jj
  have g2 := gg
  obtain ⟨S, F⟩ := ends19 st oo g2
  refine ⟨fun v => if v < 200 then ρ v else o.2.2, by exact fun v hv => if_pos (bltN (List.all_eq_true.mp (show (cAv ct_X19_place).all (fun v => Nat.blt v 200) = true by decide +kernel) v (zmem_of hv))), ⟨o1, Prod.ext o2 rfl⟩, S, F, fun _ y => absurd y List.not_mem_nil, ?_, ?_, List.forall_mem_cons.mpr ⟨⟨_, j2⟩, fun _ y => absurd y List.not_mem_nil⟩, fun _ y => absurd y List.not_mem_nil⟩
  · exact fun _ y => absurd y List.not_mem_nil
  · exact fun _ y => absurd y List.not_mem_nil
def ct_X19_lane : ZCt := (774, [(2, (2514, [])), (1, (0, [(0, 1)])), (1, (0, [(1, 1)]))], [], [], [3], [(2514, 2533, 0, 1099511627775)], some (0, 200), [], [], [], [3], [], [], 0, 0, [])
set_option maxRecDepth 100000 in
set_option maxHeartbeats 4000000 in
theorem ok_X19_lane : CtOk zG zT ct_X19_lane := by
  refine ⟨by decide +kernel, fun q hq ρ h st hE hF hV _ => ?_⟩
  cases (show some ((KX19_lane, yX19_lane, 19, 2, 0) : MR) = some q from hq)
  have eA : ((kA ct_X19_lane).map fun q => (q.1, zv ρ q.2) : List MV) = [(2, ((2514 : Nat) : Int)), (1, ρ 0), (1, ρ 1)] := by
    show ([(2, 2514 + 0), (1, 0 + (1 * ρ 0 + 0)), (1, 0 + (1 * ρ 1 + 0))] : List MV) = _
    simp only [Int.add_zero, Int.zero_add, Int.one_mul]
    rfl
  show MCal KX19_lane yX19_lane _ _ _ h _
  rw [eA]
  obtain ⟨cn, jj⟩ : ∃ cn : Int, J19 h cn := hV 3 (List.mem_of_getElem? (i := 0) rfl)
  have gg := (str_of (by decide +kernel) st : Str t19 r19 h)
  refine MCal.mono (fun o h' w => ?_) (h_X19_lane jj gg)
  obtain ⟨o1, o2, w⟩ := w
  obtain ⟨w1, w⟩ := w
  obtain ⟨oo, j2, g2⟩ := w
  obtain ⟨S, F⟩ := ends19 st oo g2
  refine ⟨fun v => if v < 200 then ρ v else o.2.2, by exact fun v hv => if_pos (bltN (List.all_eq_true.mp (show (cAv ct_X19_lane).all (fun v => Nat.blt v 200) = true by decide +kernel) v (zmem_of hv))), ⟨o1, Prod.ext o2 rfl⟩, S, F, fun _ y => absurd y List.not_mem_nil, ?_, ?_, List.forall_mem_cons.mpr ⟨⟨_, j2⟩, fun _ y => absurd y List.not_mem_nil⟩, fun _ y => absurd y List.not_mem_nil⟩
  · exact fun _ y => absurd y List.not_mem_nil
  · exact fun _ y => absurd y List.not_mem_nil
def ct_X19_lanes : ZCt := (776, [(2, (2514, [])), (0, (0, [(0, 1)])), (0, (0, [(1, 1)]))], [], [], [3], [(2514, 2533, 0, 1099511627775)], some (1, 200), [], [], [], [3], [], [], 0, 0, [])
set_option maxRecDepth 100000 in
set_option maxHeartbeats 4000000 in
theorem ok_X19_lanes : CtOk zG zT ct_X19_lanes := by
  refine ⟨by decide +kernel, fun q hq ρ h st hE hF hV _ => ?_⟩
  cases (show some ((KX19_lanes, yX19_lanes, 19, 2, 0) : MR) = some q from hq)
  have eA : ((kA ct_X19_lanes).map fun q => (q.1, zv ρ q.2) : List MV) = [(2, ((2514 : Nat) : Int)), (0, ρ 0), (0, ρ 1)] := by
    show ([(2, 2514 + 0), (0, 0 + (1 * ρ 0 + 0)), (0, 0 + (1 * ρ 1 + 0))] : List MV) = _
    simp only [Int.add_zero, Int.zero_add, Int.one_mul]
    rfl
  show MCal KX19_lanes yX19_lanes _ _ _ h _
  rw [eA]
  obtain ⟨cn, jj⟩ : ∃ cn : Int, J19 h cn := hV 3 (List.mem_of_getElem? (i := 0) rfl)
  have gg := (str_of (by decide +kernel) st : Str t19 r19 h)
  refine MCal.mono (fun o h' w => ?_) (h_X19_lanes jj gg)
  obtain ⟨o1, o2, w⟩ := w
  obtain ⟨w1, w⟩ := w
  obtain ⟨oo, j2, g2⟩ := w
  obtain ⟨S, F⟩ := ends19 st oo g2
  refine ⟨fun v => if v < 200 then ρ v else o.2.2, by exact fun v hv => if_pos (bltN (List.all_eq_true.mp (show (cAv ct_X19_lanes).all (fun v => Nat.blt v 200) = true by decide +kernel) v (zmem_of hv))), ⟨o1, Prod.ext o2 rfl⟩, S, F, fun _ y => absurd y List.not_mem_nil, ?_, ?_, List.forall_mem_cons.mpr ⟨⟨_, j2⟩, fun _ y => absurd y List.not_mem_nil⟩, fun _ y => absurd y List.not_mem_nil⟩
  · exact fun _ y => absurd y List.not_mem_nil
  · exact fun _ y => absurd y List.not_mem_nil
def ct_X19_patch : ZCt := (779, [(2, (2514, [])), (1, (0, [(0, 1)])), (0, (0, [(1, 1)]))], [], [], [3], [(2514, 2533, 0, 1099511627775)], some (1, 200), [], [], [], [3], [], [], 0, 0, [])
set_option maxRecDepth 100000 in
set_option maxHeartbeats 4000000 in
theorem ok_X19_patch : CtOk zG zT ct_X19_patch := by
  refine ⟨by decide +kernel, fun q hq ρ h st hE hF hV _ => ?_⟩
  cases (show some ((KX19_patch, yX19_patch, 19, 2, 0) : MR) = some q from hq)
  have eA : ((kA ct_X19_patch).map fun q => (q.1, zv ρ q.2) : List MV) = [(2, ((2514 : Nat) : Int)), (1, ρ 0), (0, ρ 1)] := by
    show ([(2, 2514 + 0), (1, 0 + (1 * ρ 0 + 0)), (0, 0 + (1 * ρ 1 + 0))] : List MV) = _
    simp only [Int.add_zero, Int.zero_add, Int.one_mul]
    rfl
  show MCal KX19_patch yX19_patch _ _ _ h _
  rw [eA]
  obtain ⟨cn, jj⟩ : ∃ cn : Int, J19 h cn := hV 3 (List.mem_of_getElem? (i := 0) rfl)
  have gg := (str_of (by decide +kernel) st : Str t19 r19 h)
  refine MCal.mono (fun o h' w => ?_) (h_X19_patch jj gg)
  obtain ⟨o1, o2, w⟩ := w
  obtain ⟨w1, w⟩ := w
  obtain ⟨oo, j2, g2⟩ := w
  obtain ⟨S, F⟩ := ends19 st oo g2
  refine ⟨fun v => if v < 200 then ρ v else o.2.2, by exact fun v hv => if_pos (bltN (List.all_eq_true.mp (show (cAv ct_X19_patch).all (fun v => Nat.blt v 200) = true by decide +kernel) v (zmem_of hv))), ⟨o1, Prod.ext o2 rfl⟩, S, F, fun _ y => absurd y List.not_mem_nil, ?_, ?_, List.forall_mem_cons.mpr ⟨⟨_, j2⟩, fun _ y => absurd y List.not_mem_nil⟩, fun _ y => absurd y List.not_mem_nil⟩
  · exact fun _ y => absurd y List.not_mem_nil
  · exact fun _ y => absurd y List.not_mem_nil
def ct_X19_covered : ZCt := (782, [(2, (2514, [])), (0, (0, [(0, 1)])), (0, (0, [(1, 1)]))], [], [], [3], [(2514, 2533, 0, 1099511627775)], some (1, 200), [], [], [], [3], [], [], 0, 0, [])
set_option maxRecDepth 100000 in
set_option maxHeartbeats 4000000 in
theorem ok_X19_covered : CtOk zG zT ct_X19_covered := by
  refine ⟨by decide +kernel, fun q hq ρ h st hE hF hV _ => ?_⟩
  cases (show some ((KX19_covered, yX19_covered, 19, 2, 0) : MR) = some q from hq)
  have eA : ((kA ct_X19_covered).map fun q => (q.1, zv ρ q.2) : List MV) = [(2, ((2514 : Nat) : Int)), (0, ρ 0), (0, ρ 1)] := by
    show ([(2, 2514 + 0), (0, 0 + (1 * ρ 0 + 0)), (0, 0 + (1 * ρ 1 + 0))] : List MV) = _
    simp only [Int.add_zero, Int.zero_add, Int.one_mul]
    rfl
  show MCal KX19_covered yX19_covered _ _ _ h _
  rw [eA]
  obtain ⟨cn, jj⟩ : ∃ cn : Int, J19 h cn := hV 3 (List.mem_of_getElem? (i := 0) rfl)
  have gg := (str_of (by decide +kernel) st : Str t19 r19 h)
  refine MCal.mono (fun o h' w => ?_) (h_X19_covered jj.1 gg)
  obtain ⟨o1, o2, w⟩ := w
  obtain ⟨w1, w⟩ := w
  subst w
  have oo : Only C19 h' h' := Only.refl _ _
  have j2 := jj
  have g2 := gg
  obtain ⟨S, F⟩ := ends19 st oo g2
  refine ⟨fun v => if v < 200 then ρ v else o.2.2, by exact fun v hv => if_pos (bltN (List.all_eq_true.mp (show (cAv ct_X19_covered).all (fun v => Nat.blt v 200) = true by decide +kernel) v (zmem_of hv))), ⟨o1, Prod.ext o2 rfl⟩, S, F, fun _ y => absurd y List.not_mem_nil, ?_, ?_, List.forall_mem_cons.mpr ⟨⟨_, j2⟩, fun _ y => absurd y List.not_mem_nil⟩, fun _ y => absurd y List.not_mem_nil⟩
  · exact fun _ y => absurd y List.not_mem_nil
  · exact fun _ y => absurd y List.not_mem_nil
def ct_X19_vehicles : ZCt := (783, [(2, (2514, [])), (0, (0, [(0, 1)]))], [], [], [3], [(2514, 2533, 0, 1099511627775)], some (0, 200), [], [], [], [3], [], [], 0, 0, [])
set_option maxRecDepth 100000 in
set_option maxHeartbeats 4000000 in
theorem ok_X19_vehicles : CtOk zG zT ct_X19_vehicles := by
  refine ⟨by decide +kernel, fun q hq ρ h st hE hF hV _ => ?_⟩
  cases (show some ((KX19_vehicles, yX19_vehicles, 19, 1, 0) : MR) = some q from hq)
  have eA : ((kA ct_X19_vehicles).map fun q => (q.1, zv ρ q.2) : List MV) = [(2, ((2514 : Nat) : Int)), (0, ρ 0)] := by
    show ([(2, 2514 + 0), (0, 0 + (1 * ρ 0 + 0))] : List MV) = _
    simp only [Int.add_zero, Int.zero_add, Int.one_mul]
    rfl
  show MCal KX19_vehicles yX19_vehicles _ _ _ h _
  rw [eA]
  obtain ⟨cn, jj⟩ : ∃ cn : Int, J19 h cn := hV 3 (List.mem_of_getElem? (i := 0) rfl)
  have gg := (str_of (by decide +kernel) st : Str t19 r19 h)
  refine MCal.mono (fun o h' w => ?_) (h_X19_vehicles jj.1 gg)
  obtain ⟨o1, o2, w⟩ := w
  obtain ⟨w1, w⟩ := w
  subst w
  have oo : Only C19 h' h' := Only.refl _ _
  have j2 := jj
  have g2 := gg
  obtain ⟨S, F⟩ := ends19 st oo g2
  refine ⟨fun v => if v < 200 then ρ v else o.2.2, by exact fun v hv => if_pos (bltN (List.all_eq_true.mp (show (cAv ct_X19_vehicles).all (fun v => Nat.blt v 200) = true by decide +kernel) v (zmem_of hv))), ⟨o1, Prod.ext o2 rfl⟩, S, F, fun _ y => absurd y List.not_mem_nil, ?_, ?_, List.forall_mem_cons.mpr ⟨⟨_, j2⟩, fun _ y => absurd y List.not_mem_nil⟩, fun _ y => absurd y List.not_mem_nil⟩
  · exact fun _ y => absurd y List.not_mem_nil
  · exact fun _ y => absurd y List.not_mem_nil
def ct_X19_unit : ZCt := (784, [(2, (2514, [])), (0, (0, [(0, 1)]))], [], [], [3], [(2514, 2533, 0, 1099511627775)], some (0, 200), [], [(0, [(200, 1)]), (1, [(200, (-1))])], [], [3], [], [], 0, 0, [])
set_option maxRecDepth 100000 in
set_option maxHeartbeats 4000000 in
theorem ok_X19_unit : CtOk zG zT ct_X19_unit := by
  refine ⟨by decide +kernel, fun q hq ρ h st hE hF hV _ => ?_⟩
  cases (show some ((KX19_unit, yX19_unit, 19, 1, 0) : MR) = some q from hq)
  have eA : ((kA ct_X19_unit).map fun q => (q.1, zv ρ q.2) : List MV) = [(2, ((2514 : Nat) : Int)), (0, ρ 0)] := by
    show ([(2, 2514 + 0), (0, 0 + (1 * ρ 0 + 0))] : List MV) = _
    simp only [Int.add_zero, Int.zero_add, Int.one_mul]
    rfl
  show MCal KX19_unit yX19_unit _ _ _ h _
  rw [eA]
  obtain ⟨cn, jj⟩ : ∃ cn : Int, J19 h cn := hV 3 (List.mem_of_getElem? (i := 0) rfl)
  have gg := (str_of (by decide +kernel) st : Str t19 r19 h)
  refine MCal.mono (fun o h' w => ?_) (h_X19_unit jj gg)
  obtain ⟨o1, o2, w⟩ := w
  obtain ⟨w1, w⟩ := w
  obtain ⟨oo, j2, g2⟩ := w
  obtain ⟨S, F⟩ := ends19 st oo g2
  refine ⟨fun v => if v < 200 then ρ v else o.2.2, by exact fun v hv => if_pos (bltN (List.all_eq_true.mp (show (cAv ct_X19_unit).all (fun v => Nat.blt v 200) = true by decide +kernel) v (zmem_of hv))), ⟨o1, Prod.ext o2 rfl⟩, S, F, fun _ y => absurd y List.not_mem_nil, ?_, ?_, List.forall_mem_cons.mpr ⟨⟨_, j2⟩, fun _ y => absurd y List.not_mem_nil⟩, fun _ y => absurd y List.not_mem_nil⟩
  · refine List.forall_mem_cons.mpr ⟨?_, List.forall_mem_cons.mpr ⟨?_, fun _ y => absurd y List.not_mem_nil⟩⟩
    · show (0 : Int) ≤ 0 + (1 * o.2.2 + 0)
      omega
    · show (0 : Int) ≤ 1 + ((-1) * o.2.2 + 0)
      omega
  · exact fun _ y => absurd y List.not_mem_nil
def ct_X19_rules : ZCt := (786, [(2, (2514, []))], [], [], [3], [(2514, 2533, 0, 1099511627775)], some (0, 200), [], [], [], [3], [], [], 0, 0, [])
set_option maxRecDepth 100000 in
set_option maxHeartbeats 4000000 in
theorem ok_X19_rules : CtOk zG zT ct_X19_rules := by
  refine ⟨by decide +kernel, fun q hq ρ h st hE hF hV _ => ?_⟩
  cases (show some ((KX19_rules, yX19_rules, 19, 0, 0) : MR) = some q from hq)
  have eA : ((kA ct_X19_rules).map fun q => (q.1, zv ρ q.2) : List MV) = [(2, ((2514 : Nat) : Int))] := by
    show ([(2, 2514 + 0)] : List MV) = _
    simp only [Int.add_zero, Int.zero_add, Int.one_mul]
    rfl
  show MCal KX19_rules yX19_rules _ _ _ h _
  rw [eA]
  obtain ⟨cn, jj⟩ : ∃ cn : Int, J19 h cn := hV 3 (List.mem_of_getElem? (i := 0) rfl)
  have gg := (str_of (by decide +kernel) st : Str t19 r19 h)
  refine MCal.mono (fun o h' w => ?_) (h_X19_rules jj gg)
  obtain ⟨o1, o2, w⟩ := w
  obtain ⟨w1, w⟩ := w
  obtain ⟨oo, j2, g2⟩ := w
  obtain ⟨S, F⟩ := ends19 st oo g2
  refine ⟨fun v => if v < 200 then ρ v else o.2.2, by exact fun v hv => if_pos (bltN (List.all_eq_true.mp (show (cAv ct_X19_rules).all (fun v => Nat.blt v 200) = true by decide +kernel) v (zmem_of hv))), ⟨o1, Prod.ext o2 rfl⟩, S, F, fun _ y => absurd y List.not_mem_nil, ?_, ?_, List.forall_mem_cons.mpr ⟨⟨_, j2⟩, fun _ y => absurd y List.not_mem_nil⟩, fun _ y => absurd y List.not_mem_nil⟩
  · exact fun _ y => absurd y List.not_mem_nil
  · exact fun _ y => absurd y List.not_mem_nil
def ct_X19_cases : ZCt := (787, [(2, (2514, []))], [], [], [3], [(2514, 2533, 0, 1099511627775)], some (0, 200), [], [], [], [3], [], [], 0, 0, [])
set_option maxRecDepth 100000 in
set_option maxHeartbeats 4000000 in
theorem ok_X19_cases : CtOk zG zT ct_X19_cases := by
  refine ⟨by decide +kernel, fun q hq ρ h st hE hF hV _ => ?_⟩
  cases (show some ((KX19_cases, yX19_cases, 19, 0, 0) : MR) = some q from hq)
  have eA : ((kA ct_X19_cases).map fun q => (q.1, zv ρ q.2) : List MV) = [(2, ((2514 : Nat) : Int))] := by
    show ([(2, 2514 + 0)] : List MV) = _
    simp only [Int.add_zero, Int.zero_add, Int.one_mul]
    rfl
  show MCal KX19_cases yX19_cases _ _ _ h _
  rw [eA]
  obtain ⟨cn, jj⟩ : ∃ cn : Int, J19 h cn := hV 3 (List.mem_of_getElem? (i := 0) rfl)
  have gg := (str_of (by decide +kernel) st : Str t19 r19 h)
  refine MCal.mono (fun o h' w => ?_) (h_X19_cases jj.1 gg)
  obtain ⟨o1, o2, w⟩ := w
  obtain ⟨w1, w⟩ := w
  subst w
  have oo : Only C19 h' h' := Only.refl _ _
  have j2 := jj
  have g2 := gg
  obtain ⟨S, F⟩ := ends19 st oo g2
  refine ⟨fun v => if v < 200 then ρ v else o.2.2, by exact fun v hv => if_pos (bltN (List.all_eq_true.mp (show (cAv ct_X19_cases).all (fun v => Nat.blt v 200) = true by decide +kernel) v (zmem_of hv))), ⟨o1, Prod.ext o2 rfl⟩, S, F, fun _ y => absurd y List.not_mem_nil, ?_, ?_, List.forall_mem_cons.mpr ⟨⟨_, j2⟩, fun _ y => absurd y List.not_mem_nil⟩, fun _ y => absurd y List.not_mem_nil⟩
  · exact fun _ y => absurd y List.not_mem_nil
  · exact fun _ y => absurd y List.not_mem_nil
def ct_X19_caseOf : ZCt := (789, [(2, (2514, [])), (0, (0, [(0, 1)])), (0, (0, [(1, 1)]))], [], [], [3], [(2514, 2533, 0, 1099511627775)], some (1, 200), [], [], [], [3], [], [], 0, 0, [])
set_option maxRecDepth 100000 in
set_option maxHeartbeats 4000000 in
theorem ok_X19_caseOf : CtOk zG zT ct_X19_caseOf := by
  refine ⟨by decide +kernel, fun q hq ρ h st hE hF hV _ => ?_⟩
  cases (show some ((KX19_caseOf, yX19_caseOf, 19, 2, 0) : MR) = some q from hq)
  have eA : ((kA ct_X19_caseOf).map fun q => (q.1, zv ρ q.2) : List MV) = [(2, ((2514 : Nat) : Int)), (0, ρ 0), (0, ρ 1)] := by
    show ([(2, 2514 + 0), (0, 0 + (1 * ρ 0 + 0)), (0, 0 + (1 * ρ 1 + 0))] : List MV) = _
    simp only [Int.add_zero, Int.zero_add, Int.one_mul]
    rfl
  show MCal KX19_caseOf yX19_caseOf _ _ _ h _
  rw [eA]
  obtain ⟨cn, jj⟩ : ∃ cn : Int, J19 h cn := hV 3 (List.mem_of_getElem? (i := 0) rfl)
  have gg := (str_of (by decide +kernel) st : Str t19 r19 h)
  refine MCal.mono (fun o h' w => ?_) (h_X19_caseOf jj gg)
  obtain ⟨o1, o2, w⟩ := w
  obtain ⟨w1, w⟩ := w
  obtain ⟨oo, j2, g2⟩ := w
  obtain ⟨S, F⟩ := ends19 st oo g2
  refine ⟨fun v => if v < 200 then ρ v else o.2.2, by exact fun v hv => if_pos (bltN (List.all_eq_true.mp (show (cAv ct_X19_caseOf).all (fun v => Nat.blt v 200) = true by decide +kernel) v (zmem_of hv))), ⟨o1, Prod.ext o2 rfl⟩, S, F, fun _ y => absurd y List.not_mem_nil, ?_, ?_, List.forall_mem_cons.mpr ⟨⟨_, j2⟩, fun _ y => absurd y List.not_mem_nil⟩, fun _ y => absurd y List.not_mem_nil⟩
  · exact fun _ y => absurd y List.not_mem_nil
  · exact fun _ y => absurd y List.not_mem_nil
def ct_X19_by : ZCt := (790, [(2, (2514, [])), (0, (0, [(0, 1)]))], [], [], [3], [(2514, 2533, 0, 1099511627775)], some (0, 200), [], [], [], [3], [], [], 0, 0, [])
set_option maxRecDepth 100000 in
set_option maxHeartbeats 4000000 in
theorem ok_X19_by : CtOk zG zT ct_X19_by := by
  refine ⟨by decide +kernel, fun q hq ρ h st hE hF hV _ => ?_⟩
  cases (show some ((KX19_by, yX19_by, 19, 1, 0) : MR) = some q from hq)
  have eA : ((kA ct_X19_by).map fun q => (q.1, zv ρ q.2) : List MV) = [(2, ((2514 : Nat) : Int)), (0, ρ 0)] := by
    show ([(2, 2514 + 0), (0, 0 + (1 * ρ 0 + 0))] : List MV) = _
    simp only [Int.add_zero, Int.zero_add, Int.one_mul]
    rfl
  show MCal KX19_by yX19_by _ _ _ h _
  rw [eA]
  obtain ⟨cn, jj⟩ : ∃ cn : Int, J19 h cn := hV 3 (List.mem_of_getElem? (i := 0) rfl)
  have gg := (str_of (by decide +kernel) st : Str t19 r19 h)
  refine MCal.mono (fun o h' w => ?_) (h_X19_by jj gg)
  obtain ⟨o1, o2, w⟩ := w
  obtain ⟨w1, w⟩ := w
  obtain ⟨oo, j2, g2⟩ := w
  obtain ⟨S, F⟩ := ends19 st oo g2
  refine ⟨fun v => if v < 200 then ρ v else o.2.2, by exact fun v hv => if_pos (bltN (List.all_eq_true.mp (show (cAv ct_X19_by).all (fun v => Nat.blt v 200) = true by decide +kernel) v (zmem_of hv))), ⟨o1, Prod.ext o2 rfl⟩, S, F, fun _ y => absurd y List.not_mem_nil, ?_, ?_, List.forall_mem_cons.mpr ⟨⟨_, j2⟩, fun _ y => absurd y List.not_mem_nil⟩, fun _ y => absurd y List.not_mem_nil⟩
  · exact fun _ y => absurd y List.not_mem_nil
  · exact fun _ y => absurd y List.not_mem_nil
def ct_X19_between : ZCt := (791, [(2, (2514, [])), (0, (0, [(0, 1)])), (0, (0, [(1, 1)]))], [], [], [3], [(2514, 2533, 0, 1099511627775)], some (0, 200), [], [], [], [3], [], [], 0, 0, [])
set_option maxRecDepth 100000 in
set_option maxHeartbeats 4000000 in
theorem ok_X19_between : CtOk zG zT ct_X19_between := by
  refine ⟨by decide +kernel, fun q hq ρ h st hE hF hV _ => ?_⟩
  cases (show some ((KX19_between, yX19_between, 19, 2, 0) : MR) = some q from hq)
  have eA : ((kA ct_X19_between).map fun q => (q.1, zv ρ q.2) : List MV) = [(2, ((2514 : Nat) : Int)), (0, ρ 0), (0, ρ 1)] := by
    show ([(2, 2514 + 0), (0, 0 + (1 * ρ 0 + 0)), (0, 0 + (1 * ρ 1 + 0))] : List MV) = _
    simp only [Int.add_zero, Int.zero_add, Int.one_mul]
    rfl
  show MCal KX19_between yX19_between _ _ _ h _
  rw [eA]
  obtain ⟨cn, jj⟩ : ∃ cn : Int, J19 h cn := hV 3 (List.mem_of_getElem? (i := 0) rfl)
  have gg := (str_of (by decide +kernel) st : Str t19 r19 h)
  refine MCal.mono (fun o h' w => ?_) (h_X19_between jj gg)
  obtain ⟨o1, o2, w⟩ := w
  obtain ⟨w1, w⟩ := w
  obtain ⟨oo, j2, g2⟩ := w
  obtain ⟨S, F⟩ := ends19 st oo g2
  refine ⟨fun v => if v < 200 then ρ v else o.2.2, by exact fun v hv => if_pos (bltN (List.all_eq_true.mp (show (cAv ct_X19_between).all (fun v => Nat.blt v 200) = true by decide +kernel) v (zmem_of hv))), ⟨o1, Prod.ext o2 rfl⟩, S, F, fun _ y => absurd y List.not_mem_nil, ?_, ?_, List.forall_mem_cons.mpr ⟨⟨_, j2⟩, fun _ y => absurd y List.not_mem_nil⟩, fun _ y => absurd y List.not_mem_nil⟩
  · exact fun _ y => absurd y List.not_mem_nil
  · exact fun _ y => absurd y List.not_mem_nil
def ct_X19_fatigue_one : ZCt := (792, [(2, (2514, [])), (0, (0, [(0, 1)])), (0, (0, [(1, 1)])), (0, (0, [(2, 1)]))], [], [((-1), [(2, 1)]), (1, [(2, (-1))])], [3], [(2514, 2533, 0, 1099511627775)], some (1, 200), [], [], [[((-1), [(200, 1)]), ((-1), [(200, (-1))])]], [3], [], [], 0, 0, [])
set_option maxRecDepth 100000 in
set_option maxHeartbeats 4000000 in
theorem ok_X19_fatigue_one : CtOk zG zT ct_X19_fatigue_one := by
  refine ⟨by decide +kernel, fun q hq ρ h st hE hF hV _ => ?_⟩
  cases (show some ((KX19_fatigue, yX19_fatigue, 19, 3, 0) : MR) = some q from hq)
  have eA : ((kA ct_X19_fatigue_one).map fun q => (q.1, zv ρ q.2) : List MV) = [(2, ((2514 : Nat) : Int)), (0, ρ 0), (0, ρ 1), (0, ρ 2)] := by
    show ([(2, 2514 + 0), (0, 0 + (1 * ρ 0 + 0)), (0, 0 + (1 * ρ 1 + 0)), (0, 0 + (1 * ρ 2 + 0))] : List MV) = _
    simp only [Int.add_zero, Int.zero_add, Int.one_mul]
    rfl
  show MCal KX19_fatigue yX19_fatigue _ _ _ h _
  rw [eA]
  have f0 : (0 : Int) ≤ (-1) + (1 * ρ 2 + 0) := hF _ (List.mem_of_getElem? (i := 0) rfl)
  have f1 : (0 : Int) ≤ 1 + ((-1) * ρ 2 + 0) := hF _ (List.mem_of_getElem? (i := 1) rfl)
  obtain ⟨cn, jj⟩ : ∃ cn : Int, J19 h cn := hV 3 (List.mem_of_getElem? (i := 0) rfl)
  have gg := (str_of (by decide +kernel) st : Str t19 r19 h)
  refine MCal.mono (fun o h' w => ?_) (h_X19_fatigue jj gg)
  obtain ⟨o1, o2, w⟩ := w
  obtain ⟨w1, w⟩ := w
  obtain ⟨oo, j2, g2⟩ := w
  obtain ⟨S, F⟩ := ends19 st oo g2
  refine ⟨fun v => if v < 200 then ρ v else o.2.2, by exact fun v hv => if_pos (bltN (List.all_eq_true.mp (show (cAv ct_X19_fatigue_one).all (fun v => Nat.blt v 200) = true by decide +kernel) v (zmem_of hv))), ⟨o1, Prod.ext o2 rfl⟩, S, F, fun _ y => absurd y List.not_mem_nil, ?_, ?_, List.forall_mem_cons.mpr ⟨⟨_, j2⟩, fun _ y => absurd y List.not_mem_nil⟩, fun _ y => absurd y List.not_mem_nil⟩
  · exact fun _ y => absurd y List.not_mem_nil
  · refine List.forall_mem_cons.mpr ⟨?_, fun _ y => absurd y List.not_mem_nil⟩
    · have alt : 0 ≤ (-1) + (1 * o.2.2 + 0) ∨ 0 ≤ (-1) + ((-1) * o.2.2 + 0) := by omega
      rcases alt with z | z
      · exact ⟨_, List.mem_cons_self, z⟩
      · exact ⟨_, List.mem_cons_of_mem _ List.mem_cons_self, z⟩
def ct_X19_fatigue_m1 : ZCt := (792, [(2, (2514, [])), (0, (0, [(0, 1)])), (0, (0, [(1, 1)])), (0, (0, [(2, 1)]))], [], [(1, [(2, 1)]), ((-1), [(2, (-1))])], [3], [(2514, 2533, 0, 1099511627775)], some (1, 200), [], [], [[(69, [(1, (-1))]), ((-2), [(200, (-1))])]], [3], [], [], 0, 0, [])
set_option maxRecDepth 100000 in
set_option maxHeartbeats 4000000 in
theorem ok_X19_fatigue_m1 : CtOk zG zT ct_X19_fatigue_m1 := by
  refine ⟨by decide +kernel, fun q hq ρ h st hE hF hV _ => ?_⟩
  cases (show some ((KX19_fatigue, yX19_fatigue, 19, 3, 0) : MR) = some q from hq)
  have eA : ((kA ct_X19_fatigue_m1).map fun q => (q.1, zv ρ q.2) : List MV) = [(2, ((2514 : Nat) : Int)), (0, ρ 0), (0, ρ 1), (0, ρ 2)] := by
    show ([(2, 2514 + 0), (0, 0 + (1 * ρ 0 + 0)), (0, 0 + (1 * ρ 1 + 0)), (0, 0 + (1 * ρ 2 + 0))] : List MV) = _
    simp only [Int.add_zero, Int.zero_add, Int.one_mul]
    rfl
  show MCal KX19_fatigue yX19_fatigue _ _ _ h _
  rw [eA]
  have f0 : (0 : Int) ≤ 1 + (1 * ρ 2 + 0) := hF _ (List.mem_of_getElem? (i := 0) rfl)
  have f1 : (0 : Int) ≤ (-1) + ((-1) * ρ 2 + 0) := hF _ (List.mem_of_getElem? (i := 1) rfl)
  obtain ⟨cn, jj⟩ : ∃ cn : Int, J19 h cn := hV 3 (List.mem_of_getElem? (i := 0) rfl)
  have gg := (str_of (by decide +kernel) st : Str t19 r19 h)
  refine MCal.mono (fun o h' w => ?_) (h_X19_fatigue jj gg)
  obtain ⟨o1, o2, w⟩ := w
  obtain ⟨w1, w⟩ := w
  obtain ⟨oo, j2, g2⟩ := w
  obtain ⟨S, F⟩ := ends19 st oo g2
  refine ⟨fun v => if v < 200 then ρ v else o.2.2, by exact fun v hv => if_pos (bltN (List.all_eq_true.mp (show (cAv ct_X19_fatigue_m1).all (fun v => Nat.blt v 200) = true by decide +kernel) v (zmem_of hv))), ⟨o1, Prod.ext o2 rfl⟩, S, F, fun _ y => absurd y List.not_mem_nil, ?_, ?_, List.forall_mem_cons.mpr ⟨⟨_, j2⟩, fun _ y => absurd y List.not_mem_nil⟩, fun _ y => absurd y List.not_mem_nil⟩
  · exact fun _ y => absurd y List.not_mem_nil
  · refine List.forall_mem_cons.mpr ⟨?_, fun _ y => absurd y List.not_mem_nil⟩
    · have alt : 0 ≤ 69 + ((-1) * ρ 1 + 0) ∨ 0 ≤ (-2) + ((-1) * o.2.2 + 0) := by omega
      rcases alt with z | z
      · exact ⟨_, List.mem_cons_self, z⟩
      · exact ⟨_, List.mem_cons_of_mem _ List.mem_cons_self, z⟩
def ct_X19_fatigue_any : ZCt := (792, [(2, (2514, [])), (0, (0, [(0, 1)])), (0, (0, [(1, 1)])), (0, (0, [(2, 1)]))], [], [], [3], [(2514, 2533, 0, 1099511627775)], some (1, 200), [], [], [], [3], [], [], 0, 0, [])
set_option maxRecDepth 100000 in
set_option maxHeartbeats 4000000 in
theorem ok_X19_fatigue_any : CtOk zG zT ct_X19_fatigue_any := by
  refine ⟨by decide +kernel, fun q hq ρ h st hE hF hV _ => ?_⟩
  cases (show some ((KX19_fatigue, yX19_fatigue, 19, 3, 0) : MR) = some q from hq)
  have eA : ((kA ct_X19_fatigue_any).map fun q => (q.1, zv ρ q.2) : List MV) = [(2, ((2514 : Nat) : Int)), (0, ρ 0), (0, ρ 1), (0, ρ 2)] := by
    show ([(2, 2514 + 0), (0, 0 + (1 * ρ 0 + 0)), (0, 0 + (1 * ρ 1 + 0)), (0, 0 + (1 * ρ 2 + 0))] : List MV) = _
    simp only [Int.add_zero, Int.zero_add, Int.one_mul]
    rfl
  show MCal KX19_fatigue yX19_fatigue _ _ _ h _
  rw [eA]
  obtain ⟨cn, jj⟩ : ∃ cn : Int, J19 h cn := hV 3 (List.mem_of_getElem? (i := 0) rfl)
  have gg := (str_of (by decide +kernel) st : Str t19 r19 h)
  refine MCal.mono (fun o h' w => ?_) (h_X19_fatigue jj gg)
  obtain ⟨o1, o2, w⟩ := w
  obtain ⟨w1, w⟩ := w
  obtain ⟨oo, j2, g2⟩ := w
  obtain ⟨S, F⟩ := ends19 st oo g2
  refine ⟨fun v => if v < 200 then ρ v else o.2.2, by exact fun v hv => if_pos (bltN (List.all_eq_true.mp (show (cAv ct_X19_fatigue_any).all (fun v => Nat.blt v 200) = true by decide +kernel) v (zmem_of hv))), ⟨o1, Prod.ext o2 rfl⟩, S, F, fun _ y => absurd y List.not_mem_nil, ?_, ?_, List.forall_mem_cons.mpr ⟨⟨_, j2⟩, fun _ y => absurd y List.not_mem_nil⟩, fun _ y => absurd y List.not_mem_nil⟩
  · exact fun _ y => absurd y List.not_mem_nil
  · exact fun _ y => absurd y List.not_mem_nil
def ct_X19_brake : ZCt := (793, [(2, (2514, [])), (0, (0, [(0, 1)]))], [], [], [3], [(2514, 2533, 0, 1099511627775)], some (1, 200), [], [], [], [3], [], [], 0, 0, [])
set_option maxRecDepth 100000 in
set_option maxHeartbeats 4000000 in
theorem ok_X19_brake : CtOk zG zT ct_X19_brake := by
  refine ⟨by decide +kernel, fun q hq ρ h st hE hF hV _ => ?_⟩
  cases (show some ((KX19_brake, yX19_brake, 19, 1, 0) : MR) = some q from hq)
  have eA : ((kA ct_X19_brake).map fun q => (q.1, zv ρ q.2) : List MV) = [(2, ((2514 : Nat) : Int)), (0, ρ 0)] := by
    show ([(2, 2514 + 0), (0, 0 + (1 * ρ 0 + 0))] : List MV) = _
    simp only [Int.add_zero, Int.zero_add, Int.one_mul]
    rfl
  show MCal KX19_brake yX19_brake _ _ _ h _
  rw [eA]
  obtain ⟨cn, jj⟩ : ∃ cn : Int, J19 h cn := hV 3 (List.mem_of_getElem? (i := 0) rfl)
  have gg := (str_of (by decide +kernel) st : Str t19 r19 h)
  refine MCal.mono (fun o h' w => ?_) (h_X19_brake jj gg)
  obtain ⟨o1, o2, w⟩ := w
  obtain ⟨w1, w⟩ := w
  obtain ⟨oo, j2, g2⟩ := w
  obtain ⟨S, F⟩ := ends19 st oo g2
  refine ⟨fun v => if v < 200 then ρ v else o.2.2, by exact fun v hv => if_pos (bltN (List.all_eq_true.mp (show (cAv ct_X19_brake).all (fun v => Nat.blt v 200) = true by decide +kernel) v (zmem_of hv))), ⟨o1, Prod.ext o2 rfl⟩, S, F, fun _ y => absurd y List.not_mem_nil, ?_, ?_, List.forall_mem_cons.mpr ⟨⟨_, j2⟩, fun _ y => absurd y List.not_mem_nil⟩, fun _ y => absurd y List.not_mem_nil⟩
  · exact fun _ y => absurd y List.not_mem_nil
  · exact fun _ y => absurd y List.not_mem_nil
def ct_X19_tried : ZCt := (794, [(2, (2514, []))], [], [], [3], [(2514, 2533, 0, 1099511627775)], some (1, 200), [], [], [], [3], [], [], 0, 0, [])
set_option maxRecDepth 100000 in
set_option maxHeartbeats 4000000 in
theorem ok_X19_tried : CtOk zG zT ct_X19_tried := by
  refine ⟨by decide +kernel, fun q hq ρ h st hE hF hV _ => ?_⟩
  cases (show some ((KX19_tried, yX19_tried, 19, 0, 0) : MR) = some q from hq)
  have eA : ((kA ct_X19_tried).map fun q => (q.1, zv ρ q.2) : List MV) = [(2, ((2514 : Nat) : Int))] := by
    show ([(2, 2514 + 0)] : List MV) = _
    simp only [Int.add_zero, Int.zero_add, Int.one_mul]
    rfl
  show MCal KX19_tried yX19_tried _ _ _ h _
  rw [eA]
  obtain ⟨cn, jj⟩ : ∃ cn : Int, J19 h cn := hV 3 (List.mem_of_getElem? (i := 0) rfl)
  have gg := (str_of (by decide +kernel) st : Str t19 r19 h)
  refine MCal.mono (fun o h' w => ?_) (h_X19_tried gg)
  obtain ⟨o1, o2, w⟩ := w
  subst w
  have oo : Only C19 h' h' := Only.refl _ _
  have j2 := jj
  have g2 := gg
  obtain ⟨S, F⟩ := ends19 st oo g2
  refine ⟨fun v => if v < 200 then ρ v else o.2.2, by exact fun v hv => if_pos (bltN (List.all_eq_true.mp (show (cAv ct_X19_tried).all (fun v => Nat.blt v 200) = true by decide +kernel) v (zmem_of hv))), ⟨o1, Prod.ext o2 rfl⟩, S, F, fun _ y => absurd y List.not_mem_nil, ?_, ?_, List.forall_mem_cons.mpr ⟨⟨_, j2⟩, fun _ y => absurd y List.not_mem_nil⟩, fun _ y => absurd y List.not_mem_nil⟩
  · exact fun _ y => absurd y List.not_mem_nil
  · exact fun _ y => absurd y List.not_mem_nil
def ct_X19_corners : ZCt := (795, [(2, (2514, []))], [], [], [3], [(2514, 2533, 0, 1099511627775)], some (0, 200), [], [(0, [(200, 1)]), (1, [(200, (-1))])], [], [3], [], [], 0, 0, [])
set_option maxRecDepth 100000 in
set_option maxHeartbeats 4000000 in
theorem ok_X19_corners : CtOk zG zT ct_X19_corners := by
  refine ⟨by decide +kernel, fun q hq ρ h st hE hF hV _ => ?_⟩
  cases (show some ((KX19_corners, yX19_corners, 19, 0, 0) : MR) = some q from hq)
  have eA : ((kA ct_X19_corners).map fun q => (q.1, zv ρ q.2) : List MV) = [(2, ((2514 : Nat) : Int))] := by
    show ([(2, 2514 + 0)] : List MV) = _
    simp only [Int.add_zero, Int.zero_add, Int.one_mul]
    rfl
  show MCal KX19_corners yX19_corners _ _ _ h _
  rw [eA]
  obtain ⟨cn, jj⟩ : ∃ cn : Int, J19 h cn := hV 3 (List.mem_of_getElem? (i := 0) rfl)
  have gg := (str_of (by decide +kernel) st : Str t19 r19 h)
  refine MCal.mono (fun o h' w => ?_) (h_X19_corners jj gg)
  obtain ⟨o1, o2, w⟩ := w
  obtain ⟨w1, w⟩ := w
  obtain ⟨oo, j2, g2⟩ := w
  obtain ⟨S, F⟩ := ends19 st oo g2
  refine ⟨fun v => if v < 200 then ρ v else o.2.2, by exact fun v hv => if_pos (bltN (List.all_eq_true.mp (show (cAv ct_X19_corners).all (fun v => Nat.blt v 200) = true by decide +kernel) v (zmem_of hv))), ⟨o1, Prod.ext o2 rfl⟩, S, F, fun _ y => absurd y List.not_mem_nil, ?_, ?_, List.forall_mem_cons.mpr ⟨⟨_, j2⟩, fun _ y => absurd y List.not_mem_nil⟩, fun _ y => absurd y List.not_mem_nil⟩
  · refine List.forall_mem_cons.mpr ⟨?_, List.forall_mem_cons.mpr ⟨?_, fun _ y => absurd y List.not_mem_nil⟩⟩
    · show (0 : Int) ≤ 0 + (1 * o.2.2 + 0)
      omega
    · show (0 : Int) ≤ 1 + ((-1) * o.2.2 + 0)
      omega
  · exact fun _ y => absurd y List.not_mem_nil
def ct_X19_clearRow : ZCt := (796, [(2, (2514, []))], [], [], [3], [(2514, 2533, 0, 1099511627775)], none, [], [], [], [3], [], [], 0, 0, [])
set_option maxRecDepth 100000 in
set_option maxHeartbeats 4000000 in
theorem ok_X19_clearRow : CtOk zG zT ct_X19_clearRow := by
  refine ⟨by decide +kernel, fun q hq ρ h st hE hF hV _ => ?_⟩
  cases (show some ((KX19_clearRow, yX19_clearRow, 19, 0, 0) : MR) = some q from hq)
  have eA : ((kA ct_X19_clearRow).map fun q => (q.1, zv ρ q.2) : List MV) = [(2, ((2514 : Nat) : Int))] := by
    show ([(2, 2514 + 0)] : List MV) = _
    simp only [Int.add_zero, Int.zero_add, Int.one_mul]
    rfl
  show MCal KX19_clearRow yX19_clearRow _ _ _ h _
  rw [eA]
  obtain ⟨cn, jj⟩ : ∃ cn : Int, J19 h cn := hV 3 (List.mem_of_getElem? (i := 0) rfl)
  have gg := (str_of (by decide +kernel) st : Str t19 r19 h)
  refine MCal.mono (fun o h' w => ?_) (h_X19_clearRow jj gg)
  obtain ⟨o1, w⟩ := w
  obtain ⟨oo, j2, g2⟩ := w
  obtain ⟨S, F⟩ := ends19 st oo g2
  refine ⟨ρ, fun _ _ => rfl, o1, S, F, fun _ y => absurd y List.not_mem_nil, ?_, ?_, List.forall_mem_cons.mpr ⟨⟨_, j2⟩, fun _ y => absurd y List.not_mem_nil⟩, fun _ y => absurd y List.not_mem_nil⟩
  · exact fun _ y => absurd y List.not_mem_nil
  · exact fun _ y => absurd y List.not_mem_nil
