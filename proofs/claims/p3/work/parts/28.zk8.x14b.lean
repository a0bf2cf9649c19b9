/-! from the walks by hand to the contracts: X14 -/
theorem h_X14_thrown {h : MH} (g : Str t14 r14 h) : MCal KX14_thrown yX14_thrown 0 0 [(2, ((2495 : Nat) : Int))] h (mRI fun _ h' => h' = h) := by
  refine MCal.ofMW (Or.inl rfl) ⟨cp_X14, rfl⟩ (Nat.le_of_ble_eq_true rfl) ?_
  generalize eQ : (mRI fun _ h' => h' = h : MO → MH → Prop) = Q
  change MW KX14_thrown Q 0 0 (pcA pgX14_thrown 0) [(0, (2, ((2495 : Nat) : Int)))] [] h
  refine hd_aload pkX14_thrown rfl rfl (Int.natCast_nonneg _) ?_
  refine hd_getI pkX14_thrown rfl (g.cell 0 rfl).1 (g.cell 0 rfl).2.1 (fun v ev rv => ?_)
  refine hd_iret pkX14_thrown rfl ?_
  subst eQ
  exact ⟨rfl, rfl, rfl⟩
theorem zref14 : ∀ j, zRef 2495 j ≠ 0 → ∃ n, (2495, j, n) ∈ r14 := by
  intro j hj
  by_cases l : j < 40
  · have w := (by decide +kernel : ∀ j : Nat, j < 40 → (zRef 2495 j = 0 ∨ (r14.any fun q => Nat.beq q.1 2495 && Nat.beq q.2.1 j) = true)) j l
    rcases w with w | w
    · exact absurd w hj
    · obtain ⟨q, hq, e⟩ := List.any_eq_true.mp w
      obtain ⟨e1, e2⟩ := andB e
      have e1 := beqN e1
      have e2 := beqN e2
      obtain ⟨a, b, c⟩ := q
      have e1 : a = 2495 := e1
      have e2 : b = j := e2
      subst e1
      subst e2
      exact ⟨c, hq⟩
  · obtain ⟨k, rfl⟩ : ∃ k, j = k + 40 := ⟨j - 40, by omega⟩
    exact absurd rfl hj
theorem ends14 {h h' : MH} (st : StrZ zT h) (o : Only C14 h h') (g' : Str t14 r14 h') : StrZ zT h' ∧ Frm [(2495, 2513, 0, 1099511627775)] h h' := by
  refine ⟨strz_str (c0 := 2495) st o (str_of (by decide +kernel) st) g' (fun c hc n j => ?_) zref14 (fun c hc => ?_), frm_only2 o fun c hc j jb n => ?_⟩
  · simp only [List.mem_cons, List.not_mem_nil, or_false] at hc
    rcases hc with rfl | rfl | rfl | rfl | rfl | rfl | rfl | rfl | rfl | rfl | rfl | rfl | rfl | rfl | rfl | rfl | rfl | rfl | rfl
    · exact absurd rfl n
    all_goals rfl
  · simp only [List.mem_cons, List.not_mem_nil, or_false] at hc
    rcases hc with rfl | rfl | rfl | rfl | rfl | rfl | rfl | rfl | rfl | rfl | rfl | rfl | rfl | rfl | rfl | rfl | rfl | rfl | rfl <;> rfl
  · refine absurd ?_ (n _ List.mem_cons_self)
    have hb : 2495 ≤ c ∧ c ≤ 2513 := by
      simp only [List.mem_cons, List.not_mem_nil, or_false] at hc
      omega
    exact ⟨⟨by show (2495 : Int) ≤ (c : Int); omega, Or.inr (by show (c : Int) ≤ 2513; omega)⟩, Or.inr ⟨by show (0 : Int) ≤ (j : Int); omega, by show (j : Int) ≤ 1099511627775; omega⟩⟩
def ct_X14_thrown : ZCt := (483, [(2, (2495, []))], [], [], [2], [(2495, 2513, 0, 1099511627775)], some (0, 200), [], [], [], [2], [], [], 0, 0, [])
set_option maxRecDepth 100000 in
set_option maxHeartbeats 4000000 in
theorem ok_X14_thrown : CtOk zG zT ct_X14_thrown := by
  refine ⟨by decide +kernel, fun q hq ρ h st hE hF hV _ => ?_⟩
  cases (show some ((KX14_thrown, yX14_thrown, 14, 0, 0) : MR) = some q from hq)
  have eA : ((kA ct_X14_thrown).map fun q => (q.1, zv ρ q.2) : List MV) = [(2, ((2495 : Nat) : Int))] := by
    show ([(2, 2495 + 0)] : List MV) = _
    simp only [Int.add_zero, Int.zero_add, Int.one_mul]
    rfl
  show MCal KX14_thrown yX14_thrown _ _ _ h _
  rw [eA]
  obtain ⟨M, jj⟩ : ∃ M : Int, J14 h M := hV 2 (List.mem_of_getElem? (i := 0) rfl)
  have gg := (str_of (by decide +kernel) st : Str t14 r14 h)
  refine MCal.mono (fun o h' w => ?_) (h_X14_thrown gg)
  obtain ⟨o1, o2, w⟩ := w
  subst w
  have oo : Only C14 h' h' := Only.refl _ _
  have j2 := jj
  have g2 := gg
  obtain ⟨S, F⟩ := ends14 st oo g2
  refine ⟨fun v => if v < 200 then ρ v else o.2.2, by exact fun v hv => if_pos (bltN (List.all_eq_true.mp (show (cAv ct_X14_thrown).all (fun v => Nat.blt v 200) = true by decide +kernel) v (zmem_of hv))), ⟨o1, Prod.ext o2 rfl⟩, S, F, fun _ y => absurd y List.not_mem_nil, ?_, ?_, List.forall_mem_cons.mpr ⟨⟨_, j2⟩, fun _ y => absurd y List.not_mem_nil⟩, fun _ y => absurd y List.not_mem_nil⟩
  · exact fun _ y => absurd y List.not_mem_nil
  · exact fun _ y => absurd y List.not_mem_nil
def ct_X14_unit : ZCt := (506, [(2, (2495, [])), (0, (0, [(0, 1)]))], [], [], [2], [(2495, 2513, 0, 1099511627775)], some (0, 200), [], [(0, [(200, 1)]), (1, [(200, (-1))])], [], [2], [], [], 0, 0, [])
set_option maxRecDepth 100000 in
set_option maxHeartbeats 4000000 in
theorem ok_X14_unit : CtOk zG zT ct_X14_unit := by
  refine ⟨by decide +kernel, fun q hq ρ h st hE hF hV _ => ?_⟩
  cases (show some ((KX14_unit, yX14_unit, 14, 1, 0) : MR) = some q from hq)
  have eA : ((kA ct_X14_unit).map fun q => (q.1, zv ρ q.2) : List MV) = [(2, ((2495 : Nat) : Int)), (0, ρ 0)] := by
    show ([(2, 2495 + 0), (0, 0 + (1 * ρ 0 + 0))] : List MV) = _
    simp only [Int.add_zero, Int.zero_add, Int.one_mul]
    rfl
  show MCal KX14_unit yX14_unit _ _ _ h _
  rw [eA]
  obtain ⟨M, jj⟩ : ∃ M : Int, J14 h M := hV 2 (List.mem_of_getElem? (i := 0) rfl)
  have gg := (str_of (by decide +kernel) st : Str t14 r14 h)
  refine MCal.mono (fun o h' w => ?_) (h_X14_unit jj gg)
  obtain ⟨o1, o2, w⟩ := w
  obtain ⟨w1, w⟩ := w
  obtain ⟨oo, j2, g2⟩ := w
  obtain ⟨S, F⟩ := ends14 st oo g2
  refine ⟨fun v => if v < 200 then ρ v else o.2.2, by exact fun v hv => if_pos (bltN (List.all_eq_true.mp (show (cAv ct_X14_unit).all (fun v => Nat.blt v 200) = true by decide +kernel) v (zmem_of hv))), ⟨o1, Prod.ext o2 rfl⟩, S, F, fun _ y => absurd y List.not_mem_nil, ?_, ?_, List.forall_mem_cons.mpr ⟨⟨_, j2⟩, fun _ y => absurd y List.not_mem_nil⟩, fun _ y => absurd y List.not_mem_nil⟩
  · refine List.forall_mem_cons.mpr ⟨?_, List.forall_mem_cons.mpr ⟨?_, fun _ y => absurd y List.not_mem_nil⟩⟩
    · show (0 : Int) ≤ 0 + (1 * o.2.2 + 0)
      omega
    · show (0 : Int) ≤ 1 + ((-1) * o.2.2 + 0)
      omega
  · exact fun _ y => absurd y List.not_mem_nil
def ct_X14_read : ZCt := (512, [(2, (2495, []))], [], [], [2], [(2495, 2513, 0, 1099511627775)], some (0, 200), [], [], [], [2], [], [], 0, 0, [])
set_option maxRecDepth 100000 in
set_option maxHeartbeats 4000000 in
theorem ok_X14_read : CtOk zG zT ct_X14_read := by
  refine ⟨by decide +kernel, fun q hq ρ h st hE hF hV _ => ?_⟩
  cases (show some ((KX14_read, yX14_read, 14, 0, 0) : MR) = some q from hq)
  have eA : ((kA ct_X14_read).map fun q => (q.1, zv ρ q.2) : List MV) = [(2, ((2495 : Nat) : Int))] := by
    show ([(2, 2495 + 0)] : List MV) = _
    simp only [Int.add_zero, Int.zero_add, Int.one_mul]
    rfl
  show MCal KX14_read yX14_read _ _ _ h _
  rw [eA]
  obtain ⟨M, jj⟩ : ∃ M : Int, J14 h M := hV 2 (List.mem_of_getElem? (i := 0) rfl)
  have gg := (str_of (by decide +kernel) st : Str t14 r14 h)
  refine MCal.mono (fun o h' w => ?_) (h_X14_read jj gg)
  obtain ⟨o1, o2, w⟩ := w
  obtain ⟨w1, w⟩ := w
  obtain ⟨oo, g2, M2, j2⟩ := w
  obtain ⟨S, F⟩ := ends14 st oo g2
  refine ⟨fun v => if v < 200 then ρ v else o.2.2, by exact fun v hv => if_pos (bltN (List.all_eq_true.mp (show (cAv ct_X14_read).all (fun v => Nat.blt v 200) = true by decide +kernel) v (zmem_of hv))), ⟨o1, Prod.ext o2 rfl⟩, S, F, fun _ y => absurd y List.not_mem_nil, ?_, ?_, List.forall_mem_cons.mpr ⟨⟨_, j2⟩, fun _ y => absurd y List.not_mem_nil⟩, fun _ y => absurd y List.not_mem_nil⟩
  · exact fun _ y => absurd y List.not_mem_nil
  · exact fun _ y => absurd y List.not_mem_nil
def ct_X14_member : ZCt := (514, [(2, (2495, [])), (0, (0, [(0, 1)])), (1, (0, [(1, 1)])), (1, (0, [(2, 1)]))], [], [], [2], [(2495, 2513, 0, 1099511627775)], some (0, 200), [], [(0, [(200, 1)]), (1, [(200, (-1))])], [], [2], [], [], 0, 0, [])
set_option maxRecDepth 100000 in
set_option maxHeartbeats 4000000 in
theorem ok_X14_member : CtOk zG zT ct_X14_member := by
  refine ⟨by decide +kernel, fun q hq ρ h st hE hF hV _ => ?_⟩
  cases (show some ((KX14_member, yX14_member, 14, 3, 0) : MR) = some q from hq)
  have eA : ((kA ct_X14_member).map fun q => (q.1, zv ρ q.2) : List MV) = [(2, ((2495 : Nat) : Int)), (0, ρ 0), (1, ρ 1), (1, ρ 2)] := by
    show ([(2, 2495 + 0), (0, 0 + (1 * ρ 0 + 0)), (1, 0 + (1 * ρ 1 + 0)), (1, 0 + (1 * ρ 2 + 0))] : List MV) = _
    simp only [Int.add_zero, Int.zero_add, Int.one_mul]
    rfl
  show MCal KX14_member yX14_member _ _ _ h _
  rw [eA]
  obtain ⟨M, jj⟩ : ∃ M : Int, J14 h M := hV 2 (List.mem_of_getElem? (i := 0) rfl)
  have gg := (str_of (by decide +kernel) st : Str t14 r14 h)
  refine MCal.mono (fun o h' w => ?_) (h_X14_member jj gg)
  obtain ⟨o1, o2, w⟩ := w
  obtain ⟨w1, w⟩ := w
  obtain ⟨oo, j2, g2⟩ := w
  obtain ⟨S, F⟩ := ends14 st oo g2
  refine ⟨fun v => if v < 200 then ρ v else o.2.2, by exact fun v hv => if_pos (bltN (List.all_eq_true.mp (show (cAv ct_X14_member).all (fun v => Nat.blt v 200) = true by decide +kernel) v (zmem_of hv))), ⟨o1, Prod.ext o2 rfl⟩, S, F, fun _ y => absurd y List.not_mem_nil, ?_, ?_, List.forall_mem_cons.mpr ⟨⟨_, j2⟩, fun _ y => absurd y List.not_mem_nil⟩, fun _ y => absurd y List.not_mem_nil⟩
  · refine List.forall_mem_cons.mpr ⟨?_, List.forall_mem_cons.mpr ⟨?_, fun _ y => absurd y List.not_mem_nil⟩⟩
    · show (0 : Int) ≤ 0 + (1 * o.2.2 + 0)
      omega
    · show (0 : Int) ≤ 1 + ((-1) * o.2.2 + 0)
      omega
  · exact fun _ y => absurd y List.not_mem_nil
def ct_X14_support : ZCt := (515, [(2, (2495, [])), (0, (0, [(0, 1)])), (0, (0, [(1, 1)])), (0, (0, [(2, 1)]))], [], [(0, [(2, 1)]), (1, [(2, (-1))])], [2], [(2495, 2513, 0, 1099511627775)], some (0, 200), [], [(0, [(200, 1)]), (1, [(200, (-1))])], [], [2], [], [], 0, 0, [])
set_option maxRecDepth 100000 in
set_option maxHeartbeats 4000000 in
theorem ok_X14_support : CtOk zG zT ct_X14_support := by
  refine ⟨by decide +kernel, fun q hq ρ h st hE hF hV _ => ?_⟩
  cases (show some ((KX14_support, yX14_support, 14, 3, 0) : MR) = some q from hq)
  have eA : ((kA ct_X14_support).map fun q => (q.1, zv ρ q.2) : List MV) = [(2, ((2495 : Nat) : Int)), (0, ρ 0), (0, ρ 1), (0, ρ 2)] := by
    show ([(2, 2495 + 0), (0, 0 + (1 * ρ 0 + 0)), (0, 0 + (1 * ρ 1 + 0)), (0, 0 + (1 * ρ 2 + 0))] : List MV) = _
    simp only [Int.add_zero, Int.zero_add, Int.one_mul]
    rfl
  show MCal KX14_support yX14_support _ _ _ h _
  rw [eA]
  have f0 : (0 : Int) ≤ 0 + (1 * ρ 2 + 0) := hF _ (List.mem_of_getElem? (i := 0) rfl)
  have f1 : (0 : Int) ≤ 1 + ((-1) * ρ 2 + 0) := hF _ (List.mem_of_getElem? (i := 1) rfl)
  obtain ⟨M, jj⟩ : ∃ M : Int, J14 h M := hV 2 (List.mem_of_getElem? (i := 0) rfl)
  have gg := (str_of (by decide +kernel) st : Str t14 r14 h)
  refine MCal.mono (fun o h' w => ?_) (h_X14_support (by omega) jj gg)
  obtain ⟨o1, o2, w⟩ := w
  obtain ⟨w1, w⟩ := w
  obtain ⟨oo, j2, g2⟩ := w
  obtain ⟨S, F⟩ := ends14 st oo g2
  refine ⟨fun v => if v < 200 then ρ v else o.2.2, by exact fun v hv => if_pos (bltN (List.all_eq_true.mp (show (cAv ct_X14_support).all (fun v => Nat.blt v 200) = true by decide +kernel) v (zmem_of hv))), ⟨o1, Prod.ext o2 rfl⟩, S, F, fun _ y => absurd y List.not_mem_nil, ?_, ?_, List.forall_mem_cons.mpr ⟨⟨_, j2⟩, fun _ y => absurd y List.not_mem_nil⟩, fun _ y => absurd y List.not_mem_nil⟩
  · refine List.forall_mem_cons.mpr ⟨?_, List.forall_mem_cons.mpr ⟨?_, fun _ y => absurd y List.not_mem_nil⟩⟩
    · show (0 : Int) ≤ 0 + (1 * o.2.2 + 0)
      omega
    · show (0 : Int) ≤ 1 + ((-1) * o.2.2 + 0)
      omega
  · exact fun _ y => absurd y List.not_mem_nil
def ct_X14_hinge : ZCt := (516, [(2, (2495, [])), (0, (0, [(0, 1)])), (0, (0, [(1, 1)])), (0, (0, [(2, 1)]))], [], [(0, [(2, 1)]), (1, [(2, (-1))])], [2], [(2495, 2513, 0, 1099511627775)], some (0, 200), [], [(0, [(200, 1)]), (1, [(200, (-1))])], [], [2], [], [], 0, 0, [])
set_option maxRecDepth 100000 in
set_option maxHeartbeats 4000000 in
theorem ok_X14_hinge : CtOk zG zT ct_X14_hinge := by
  refine ⟨by decide +kernel, fun q hq ρ h st hE hF hV _ => ?_⟩
  cases (show some ((KX14_hinge, yX14_hinge, 14, 3, 0) : MR) = some q from hq)
  have eA : ((kA ct_X14_hinge).map fun q => (q.1, zv ρ q.2) : List MV) = [(2, ((2495 : Nat) : Int)), (0, ρ 0), (0, ρ 1), (0, ρ 2)] := by
    show ([(2, 2495 + 0), (0, 0 + (1 * ρ 0 + 0)), (0, 0 + (1 * ρ 1 + 0)), (0, 0 + (1 * ρ 2 + 0))] : List MV) = _
    simp only [Int.add_zero, Int.zero_add, Int.one_mul]
    rfl
  show MCal KX14_hinge yX14_hinge _ _ _ h _
  rw [eA]
  have f0 : (0 : Int) ≤ 0 + (1 * ρ 2 + 0) := hF _ (List.mem_of_getElem? (i := 0) rfl)
  have f1 : (0 : Int) ≤ 1 + ((-1) * ρ 2 + 0) := hF _ (List.mem_of_getElem? (i := 1) rfl)
  obtain ⟨M, jj⟩ : ∃ M : Int, J14 h M := hV 2 (List.mem_of_getElem? (i := 0) rfl)
  have gg := (str_of (by decide +kernel) st : Str t14 r14 h)
  refine MCal.mono (fun o h' w => ?_) (h_X14_hinge (by omega) jj gg)
  obtain ⟨o1, o2, w⟩ := w
  obtain ⟨w1, w⟩ := w
  obtain ⟨oo, j2, g2⟩ := w
  obtain ⟨S, F⟩ := ends14 st oo g2
  refine ⟨fun v => if v < 200 then ρ v else o.2.2, by exact fun v hv => if_pos (bltN (List.all_eq_true.mp (show (cAv ct_X14_hinge).all (fun v => Nat.blt v 200) = true by decide +kernel) v (zmem_of hv))), ⟨o1, Prod.ext o2 rfl⟩, S, F, fun _ y => absurd y List.not_mem_nil, ?_, ?_, List.forall_mem_cons.mpr ⟨⟨_, j2⟩, fun _ y => absurd y List.not_mem_nil⟩, fun _ y => absurd y List.not_mem_nil⟩
  · refine List.forall_mem_cons.mpr ⟨?_, List.forall_mem_cons.mpr ⟨?_, fun _ y => absurd y List.not_mem_nil⟩⟩
    · show (0 : Int) ≤ 0 + (1 * o.2.2 + 0)
      omega
    · show (0 : Int) ≤ 1 + ((-1) * o.2.2 + 0)
      omega
  · exact fun _ y => absurd y List.not_mem_nil
def ct_X14_solve : ZCt := (531, [(2, (2495, []))], [], [], [2], [(2495, 2513, 0, 1099511627775)], some (0, 200), [], [], [], [2], [], [], 0, 0, [])
set_option maxRecDepth 100000 in
set_option maxHeartbeats 4000000 in
theorem ok_X14_solve : CtOk zG zT ct_X14_solve := by
  refine ⟨by decide +kernel, fun q hq ρ h st hE hF hV _ => ?_⟩
  cases (show some ((KX14_solve, yX14_solve, 14, 0, 0) : MR) = some q from hq)
  have eA : ((kA ct_X14_solve).map fun q => (q.1, zv ρ q.2) : List MV) = [(2, ((2495 : Nat) : Int))] := by
    show ([(2, 2495 + 0)] : List MV) = _
    simp only [Int.add_zero, Int.zero_add, Int.one_mul]
    rfl
  show MCal KX14_solve yX14_solve _ _ _ h _
  rw [eA]
  obtain ⟨M, jj⟩ : ∃ M : Int, J14 h M := hV 2 (List.mem_of_getElem? (i := 0) rfl)
  have gg := (str_of (by decide +kernel) st : Str t14 r14 h)
  refine MCal.mono (fun o h' w => ?_) (h_X14_solve jj.1 gg)
  obtain ⟨o1, o2, w⟩ := w
  obtain ⟨w1, w⟩ := w
  have oo := (w.j14 jj).2
  have j2 := (w.j14 jj).1
  have g2 := gg.rk w
  obtain ⟨S, F⟩ := ends14 st oo g2
  refine ⟨fun v => if v < 200 then ρ v else o.2.2, by exact fun v hv => if_pos (bltN (List.all_eq_true.mp (show (cAv ct_X14_solve).all (fun v => Nat.blt v 200) = true by decide +kernel) v (zmem_of hv))), ⟨o1, Prod.ext o2 rfl⟩, S, F, fun _ y => absurd y List.not_mem_nil, ?_, ?_, List.forall_mem_cons.mpr ⟨⟨_, j2⟩, fun _ y => absurd y List.not_mem_nil⟩, fun _ y => absurd y List.not_mem_nil⟩
  · exact fun _ y => absurd y List.not_mem_nil
  · exact fun _ y => absurd y List.not_mem_nil
def ct_X14_loose : ZCt := (532, [(2, (2495, [])), (0, (0, [(0, 1)]))], [], [], [2], [(2495, 2513, 0, 1099511627775)], some (0, 200), [], [], [], [2], [], [], 0, 0, [])
set_option maxRecDepth 100000 in
set_option maxHeartbeats 4000000 in
theorem ok_X14_loose : CtOk zG zT ct_X14_loose := by
  refine ⟨by decide +kernel, fun q hq ρ h st hE hF hV _ => ?_⟩
  cases (show some ((KX14_loose, yX14_loose, 14, 1, 0) : MR) = some q from hq)
  have eA : ((kA ct_X14_loose).map fun q => (q.1, zv ρ q.2) : List MV) = [(2, ((2495 : Nat) : Int)), (0, ρ 0)] := by
    show ([(2, 2495 + 0), (0, 0 + (1 * ρ 0 + 0))] : List MV) = _
    simp only [Int.add_zero, Int.zero_add, Int.one_mul]
    rfl
  show MCal KX14_loose yX14_loose _ _ _ h _
  rw [eA]
  obtain ⟨M, jj⟩ : ∃ M : Int, J14 h M := hV 2 (List.mem_of_getElem? (i := 0) rfl)
  have gg := (str_of (by decide +kernel) st : Str t14 r14 h)
  refine MCal.mono (fun o h' w => ?_) (h_X14_loose jj.1 gg)
  obtain ⟨o1, o2, w⟩ := w
  obtain ⟨w1, w⟩ := w
  have oo := (w.j14 jj).2
  have j2 := (w.j14 jj).1
  have g2 := gg.rk w
  obtain ⟨S, F⟩ := ends14 st oo g2
  refine ⟨fun v => if v < 200 then ρ v else o.2.2, by exact fun v hv => if_pos (bltN (List.all_eq_true.mp (show (cAv ct_X14_loose).all (fun v => Nat.blt v 200) = true by decide +kernel) v (zmem_of hv))), ⟨o1, Prod.ext o2 rfl⟩, S, F, fun _ y => absurd y List.not_mem_nil, ?_, ?_, List.forall_mem_cons.mpr ⟨⟨_, j2⟩, fun _ y => absurd y List.not_mem_nil⟩, fun _ y => absurd y List.not_mem_nil⟩
  · exact fun _ y => absurd y List.not_mem_nil
  · exact fun _ y => absurd y List.not_mem_nil
def ct_X14_row : ZCt := (535, [(2, (2495, [])), (0, (0, [(0, 1)])), (0, (0, [(1, 1)])), (0, (0, [(2, 1)]))], [], [], [2], [(2495, 2513, 0, 1099511627775)], some (0, 200), [], [], [], [2], [], [], 0, 0, [])
set_option maxRecDepth 100000 in
set_option maxHeartbeats 4000000 in
theorem ok_X14_row : CtOk zG zT ct_X14_row := by
  refine ⟨by decide +kernel, fun q hq ρ h st hE hF hV _ => ?_⟩
  cases (show some ((KX14_row, yX14_row, 14, 3, 0) : MR) = some q from hq)
  have eA : ((kA ct_X14_row).map fun q => (q.1, zv ρ q.2) : List MV) = [(2, ((2495 : Nat) : Int)), (0, ρ 0), (0, ρ 1), (0, ρ 2)] := by
    show ([(2, 2495 + 0), (0, 0 + (1 * ρ 0 + 0)), (0, 0 + (1 * ρ 1 + 0)), (0, 0 + (1 * ρ 2 + 0))] : List MV) = _
    simp only [Int.add_zero, Int.zero_add, Int.one_mul]
    rfl
  show MCal KX14_row yX14_row _ _ _ h _
  rw [eA]
  obtain ⟨M, jj⟩ : ∃ M : Int, J14 h M := hV 2 (List.mem_of_getElem? (i := 0) rfl)
  have gg := (str_of (by decide +kernel) st : Str t14 r14 h)
  refine MCal.mono (fun o h' w => ?_) (h_X14_row jj gg)
  obtain ⟨o1, o2, w⟩ := w
  obtain ⟨w1, w⟩ := w
  obtain ⟨oo, j2, g2⟩ := w
  obtain ⟨S, F⟩ := ends14 st oo g2
  refine ⟨fun v => if v < 200 then ρ v else o.2.2, by exact fun v hv => if_pos (bltN (List.all_eq_true.mp (show (cAv ct_X14_row).all (fun v => Nat.blt v 200) = true by decide +kernel) v (zmem_of hv))), ⟨o1, Prod.ext o2 rfl⟩, S, F, fun _ y => absurd y List.not_mem_nil, ?_, ?_, List.forall_mem_cons.mpr ⟨⟨_, j2⟩, fun _ y => absurd y List.not_mem_nil⟩, fun _ y => absurd y List.not_mem_nil⟩
  · exact fun _ y => absurd y List.not_mem_nil
  · exact fun _ y => absurd y List.not_mem_nil
def ct_X14_at : ZCt := (540, [(2, (2495, [])), (0, (0, [(0, 1)])), (0, (0, [(1, 1)])), (0, (0, [(2, 1)])), (0, (0, [(3, 1)]))], [], [], [2], [(2495, 2513, 0, 1099511627775)], some (1, 200), [], [], [], [2], [], [], 0, 0, [])
set_option maxRecDepth 100000 in
set_option maxHeartbeats 4000000 in
theorem ok_X14_at : CtOk zG zT ct_X14_at := by
  refine ⟨by decide +kernel, fun q hq ρ h st hE hF hV _ => ?_⟩
  cases (show some ((KX14_at, yX14_at, 14, 4, 0) : MR) = some q from hq)
  have eA : ((kA ct_X14_at).map fun q => (q.1, zv ρ q.2) : List MV) = [(2, ((2495 : Nat) : Int)), (0, ρ 0), (0, ρ 1), (0, ρ 2), (0, ρ 3)] := by
    show ([(2, 2495 + 0), (0, 0 + (1 * ρ 0 + 0)), (0, 0 + (1 * ρ 1 + 0)), (0, 0 + (1 * ρ 2 + 0)), (0, 0 + (1 * ρ 3 + 0))] : List MV) = _
    simp only [Int.add_zero, Int.zero_add, Int.one_mul]
    rfl
  show MCal KX14_at yX14_at _ _ _ h _
  rw [eA]
  obtain ⟨M, jj⟩ : ∃ M : Int, J14 h M := hV 2 (List.mem_of_getElem? (i := 0) rfl)
  have gg := (str_of (by decide +kernel) st : Str t14 r14 h)
  refine MCal.mono (fun o h' w => ?_) (h_X14_at jj.1 jj.2.1 gg)
  obtain ⟨o1, o2, w⟩ := w
  obtain ⟨w, _⟩ := w
  have oo := (w.j14 jj).2
  have j2 := (w.j14 jj).1
  have g2 := gg.rk w
  obtain ⟨S, F⟩ := ends14 st oo g2
  refine ⟨fun v => if v < 200 then ρ v else o.2.2, by exact fun v hv => if_pos (bltN (List.all_eq_true.mp (show (cAv ct_X14_at).all (fun v => Nat.blt v 200) = true by decide +kernel) v (zmem_of hv))), ⟨o1, Prod.ext o2 rfl⟩, S, F, fun _ y => absurd y List.not_mem_nil, ?_, ?_, List.forall_mem_cons.mpr ⟨⟨_, j2⟩, fun _ y => absurd y List.not_mem_nil⟩, fun _ y => absurd y List.not_mem_nil⟩
  · exact fun _ y => absurd y List.not_mem_nil
  · exact fun _ y => absurd y List.not_mem_nil
def ct_X14_area : ZCt := (541, [(2, (2495, [])), (0, (0, [(0, 1)])), (0, (0, [(1, 1)])), (0, (0, [(2, 1)]))], [], [], [2], [(2495, 2513, 0, 1099511627775)], some (1, 200), [], [], [], [2], [], [], 0, 0, [])
set_option maxRecDepth 100000 in
set_option maxHeartbeats 4000000 in
theorem ok_X14_area : CtOk zG zT ct_X14_area := by
  refine ⟨by decide +kernel, fun q hq ρ h st hE hF hV _ => ?_⟩
  cases (show some ((KX14_area, yX14_area, 14, 3, 0) : MR) = some q from hq)
  have eA : ((kA ct_X14_area).map fun q => (q.1, zv ρ q.2) : List MV) = [(2, ((2495 : Nat) : Int)), (0, ρ 0), (0, ρ 1), (0, ρ 2)] := by
    show ([(2, 2495 + 0), (0, 0 + (1 * ρ 0 + 0)), (0, 0 + (1 * ρ 1 + 0)), (0, 0 + (1 * ρ 2 + 0))] : List MV) = _
    simp only [Int.add_zero, Int.zero_add, Int.one_mul]
    rfl
  show MCal KX14_area yX14_area _ _ _ h _
  rw [eA]
  obtain ⟨M, jj⟩ : ∃ M : Int, J14 h M := hV 2 (List.mem_of_getElem? (i := 0) rfl)
  have gg := (str_of (by decide +kernel) st : Str t14 r14 h)
  refine MCal.mono (fun o h' w => ?_) (h_X14_area jj.1 jj.2.1 gg)
  obtain ⟨o1, o2, w⟩ := w
  have oo := (w.j14 jj).2
  have j2 := (w.j14 jj).1
  have g2 := gg.rk w
  obtain ⟨S, F⟩ := ends14 st oo g2
  refine ⟨fun v => if v < 200 then ρ v else o.2.2, by exact fun v hv => if_pos (bltN (List.all_eq_true.mp (show (cAv ct_X14_area).all (fun v => Nat.blt v 200) = true by decide +kernel) v (zmem_of hv))), ⟨o1, Prod.ext o2 rfl⟩, S, F, fun _ y => absurd y List.not_mem_nil, ?_, ?_, List.forall_mem_cons.mpr ⟨⟨_, j2⟩, fun _ y => absurd y List.not_mem_nil⟩, fun _ y => absurd y List.not_mem_nil⟩
  · exact fun _ y => absurd y List.not_mem_nil
  · exact fun _ y => absurd y List.not_mem_nil
def ct_X14_turned : ZCt := (543, [(2, (2495, [])), (0, (0, [(0, 1)]))], [], [], [2], [(2495, 2513, 0, 1099511627775)], some (0, 200), [], [(0, [(200, 1)]), (1, [(200, (-1))])], [], [2], [], [], 0, 0, [])
set_option maxRecDepth 100000 in
set_option maxHeartbeats 4000000 in
theorem ok_X14_turned : CtOk zG zT ct_X14_turned := by
  refine ⟨by decide +kernel, fun q hq ρ h st hE hF hV _ => ?_⟩
  cases (show some ((KX14_turned, yX14_turned, 14, 1, 0) : MR) = some q from hq)
  have eA : ((kA ct_X14_turned).map fun q => (q.1, zv ρ q.2) : List MV) = [(2, ((2495 : Nat) : Int)), (0, ρ 0)] := by
    show ([(2, 2495 + 0), (0, 0 + (1 * ρ 0 + 0))] : List MV) = _
    simp only [Int.add_zero, Int.zero_add, Int.one_mul]
    rfl
  show MCal KX14_turned yX14_turned _ _ _ h _
  rw [eA]
  obtain ⟨M, jj⟩ : ∃ M : Int, J14 h M := hV 2 (List.mem_of_getElem? (i := 0) rfl)
  have gg := (str_of (by decide +kernel) st : Str t14 r14 h)
  refine MCal.mono (fun o h' w => ?_) (h_X14_turned jj.1 jj.2.1 gg)
  obtain ⟨o1, o2, w⟩ := w
  obtain ⟨w1, w⟩ := w
  have oo := (w.j14 jj).2
  have j2 := (w.j14 jj).1
  have g2 := gg.rk w
  obtain ⟨S, F⟩ := ends14 st oo g2
  refine ⟨fun v => if v < 200 then ρ v else o.2.2, by exact fun v hv => if_pos (bltN (List.all_eq_true.mp (show (cAv ct_X14_turned).all (fun v => Nat.blt v 200) = true by decide +kernel) v (zmem_of hv))), ⟨o1, Prod.ext o2 rfl⟩, S, F, fun _ y => absurd y List.not_mem_nil, ?_, ?_, List.forall_mem_cons.mpr ⟨⟨_, j2⟩, fun _ y => absurd y List.not_mem_nil⟩, fun _ y => absurd y List.not_mem_nil⟩
  · refine List.forall_mem_cons.mpr ⟨?_, List.forall_mem_cons.mpr ⟨?_, fun _ y => absurd y List.not_mem_nil⟩⟩
    · show (0 : Int) ≤ 0 + (1 * o.2.2 + 0)
      omega
    · show (0 : Int) ≤ 1 + ((-1) * o.2.2 + 0)
      omega
  · exact fun _ y => absurd y List.not_mem_nil
def ct_X14_sums : ZCt := (544, [(2, (2495, []))], [], [], [2], [(2495, 2513, 0, 1099511627775)], some (0, 200), [], [(0, [(200, 1)]), (1, [(200, (-1))])], [], [2], [], [], 0, 0, [])
set_option maxRecDepth 100000 in
set_option maxHeartbeats 4000000 in
theorem ok_X14_sums : CtOk zG zT ct_X14_sums := by
  refine ⟨by decide +kernel, fun q hq ρ h st hE hF hV _ => ?_⟩
  cases (show some ((KX14_sums, yX14_sums, 14, 0, 0) : MR) = some q from hq)
  have eA : ((kA ct_X14_sums).map fun q => (q.1, zv ρ q.2) : List MV) = [(2, ((2495 : Nat) : Int))] := by
    show ([(2, 2495 + 0)] : List MV) = _
    simp only [Int.add_zero, Int.zero_add, Int.one_mul]
    rfl
  show MCal KX14_sums yX14_sums _ _ _ h _
  rw [eA]
  obtain ⟨M, jj⟩ : ∃ M : Int, J14 h M := hV 2 (List.mem_of_getElem? (i := 0) rfl)
  have gg := (str_of (by decide +kernel) st : Str t14 r14 h)
  refine MCal.mono (fun o h' w => ?_) (h_X14_sums jj.1 gg)
  obtain ⟨o1, o2, w⟩ := w
  obtain ⟨w1, w⟩ := w
  have oo := (w.j14 jj).2
  have j2 := (w.j14 jj).1
  have g2 := gg.rk w
  obtain ⟨S, F⟩ := ends14 st oo g2
  refine ⟨fun v => if v < 200 then ρ v else o.2.2, by exact fun v hv => if_pos (bltN (List.all_eq_true.mp (show (cAv ct_X14_sums).all (fun v => Nat.blt v 200) = true by decide +kernel) v (zmem_of hv))), ⟨o1, Prod.ext o2 rfl⟩, S, F, fun _ y => absurd y List.not_mem_nil, ?_, ?_, List.forall_mem_cons.mpr ⟨⟨_, j2⟩, fun _ y => absurd y List.not_mem_nil⟩, fun _ y => absurd y List.not_mem_nil⟩
  · refine List.forall_mem_cons.mpr ⟨?_, List.forall_mem_cons.mpr ⟨?_, fun _ y => absurd y List.not_mem_nil⟩⟩
    · show (0 : Int) ≤ 0 + (1 * o.2.2 + 0)
      omega
    · show (0 : Int) ≤ 1 + ((-1) * o.2.2 + 0)
      omega
  · exact fun _ y => absurd y List.not_mem_nil
def ct_X14_settled : ZCt := (545, [(2, (2495, [])), (0, (0, [(0, 1)])), (1, (0, [(1, 1)]))], [], [], [2], [(2495, 2513, 0, 1099511627775)], some (0, 200), [], [(0, [(200, 1)]), (1, [(200, (-1))])], [], [2], [], [], 0, 0, [])
set_option maxRecDepth 100000 in
set_option maxHeartbeats 4000000 in
theorem ok_X14_settled : CtOk zG zT ct_X14_settled := by
  refine ⟨by decide +kernel, fun q hq ρ h st hE hF hV _ => ?_⟩
  cases (show some ((KX14_settled, yX14_settled, 14, 2, 0) : MR) = some q from hq)
  have eA : ((kA ct_X14_settled).map fun q => (q.1, zv ρ q.2) : List MV) = [(2, ((2495 : Nat) : Int)), (0, ρ 0), (1, ρ 1)] := by
    show ([(2, 2495 + 0), (0, 0 + (1 * ρ 0 + 0)), (1, 0 + (1 * ρ 1 + 0))] : List MV) = _
    simp only [Int.add_zero, Int.zero_add, Int.one_mul]
    rfl
  show MCal KX14_settled yX14_settled _ _ _ h _
  rw [eA]
  obtain ⟨M, jj⟩ : ∃ M : Int, J14 h M := hV 2 (List.mem_of_getElem? (i := 0) rfl)
  have gg := (str_of (by decide +kernel) st : Str t14 r14 h)
  refine MCal.mono (fun o h' w => ?_) (h_X14_settled jj gg)
  obtain ⟨o1, o2, w⟩ := w
  obtain ⟨w1, w⟩ := w
  obtain ⟨oo, j2, g2⟩ := w
  obtain ⟨S, F⟩ := ends14 st oo g2
  refine ⟨fun v => if v < 200 then ρ v else o.2.2, by exact fun v hv => if_pos (bltN (List.all_eq_true.mp (show (cAv ct_X14_settled).all (fun v => Nat.blt v 200) = true by decide +kernel) v (zmem_of hv))), ⟨o1, Prod.ext o2 rfl⟩, S, F, fun _ y => absurd y List.not_mem_nil, ?_, ?_, List.forall_mem_cons.mpr ⟨⟨_, j2⟩, fun _ y => absurd y List.not_mem_nil⟩, fun _ y => absurd y List.not_mem_nil⟩
  · refine List.forall_mem_cons.mpr ⟨?_, List.forall_mem_cons.mpr ⟨?_, fun _ y => absurd y List.not_mem_nil⟩⟩
    · show (0 : Int) ≤ 0 + (1 * o.2.2 + 0)
      omega
    · show (0 : Int) ≤ 1 + ((-1) * o.2.2 + 0)
      omega
  · exact fun _ y => absurd y List.not_mem_nil
def ct_X14_move : ZCt := (546, [(2, (2495, [])), (0, (0, [(0, 1)])), (1, (0, [(1, 1)])), (1, (0, [(2, 1)])), (0, (0, [(3, 1)]))], [], [], [2], [(2495, 2513, 0, 1099511627775)], some (1, 200), [], [], [], [2], [], [], 0, 0, [])
set_option maxRecDepth 100000 in
set_option maxHeartbeats 4000000 in
theorem ok_X14_move : CtOk zG zT ct_X14_move := by
  refine ⟨by decide +kernel, fun q hq ρ h st hE hF hV _ => ?_⟩
  cases (show some ((KX14_move, yX14_move, 14, 4, 0) : MR) = some q from hq)
  have eA : ((kA ct_X14_move).map fun q => (q.1, zv ρ q.2) : List MV) = [(2, ((2495 : Nat) : Int)), (0, ρ 0), (1, ρ 1), (1, ρ 2), (0, ρ 3)] := by
    show ([(2, 2495 + 0), (0, 0 + (1 * ρ 0 + 0)), (1, 0 + (1 * ρ 1 + 0)), (1, 0 + (1 * ρ 2 + 0)), (0, 0 + (1 * ρ 3 + 0))] : List MV) = _
    simp only [Int.add_zero, Int.zero_add, Int.one_mul]
    rfl
  show MCal KX14_move yX14_move _ _ _ h _
  rw [eA]
  obtain ⟨M, jj⟩ : ∃ M : Int, J14 h M := hV 2 (List.mem_of_getElem? (i := 0) rfl)
  have gg := (str_of (by decide +kernel) st : Str t14 r14 h)
  refine MCal.mono (fun o h' w => ?_) (h_X14_move jj.1 gg)
  obtain ⟨o1, o2, w⟩ := w
  have oo := (w.j14 jj).2
  have j2 := (w.j14 jj).1
  have g2 := gg.rk w
  obtain ⟨S, F⟩ := ends14 st oo g2
  refine ⟨fun v => if v < 200 then ρ v else o.2.2, by exact fun v hv => if_pos (bltN (List.all_eq_true.mp (show (cAv ct_X14_move).all (fun v => Nat.blt v 200) = true by decide +kernel) v (zmem_of hv))), ⟨o1, Prod.ext o2 rfl⟩, S, F, fun _ y => absurd y List.not_mem_nil, ?_, ?_, List.forall_mem_cons.mpr ⟨⟨_, j2⟩, fun _ y => absurd y List.not_mem_nil⟩, fun _ y => absurd y List.not_mem_nil⟩
  · exact fun _ y => absurd y List.not_mem_nil
  · exact fun _ y => absurd y List.not_mem_nil
def ct_X14_count_zero : ZCt := (547, [(2, (2495, [])), (0, (0, []))], [], [], [2], [(2495, 2513, 0, 1099511627775)], some (0, 200), [], [(3, [(200, (-1))])], [], [2], [], [], 0, 0, [])
set_option maxRecDepth 100000 in
set_option maxHeartbeats 4000000 in
theorem ok_X14_count_zero : CtOk zG zT ct_X14_count_zero := by
  refine ⟨by decide +kernel, fun q hq ρ h st hE hF hV _ => ?_⟩
  cases (show some ((KX14_count, yX14_count, 14, 1, 0) : MR) = some q from hq)
  have eA : ((kA ct_X14_count_zero).map fun q => (q.1, zv ρ q.2) : List MV) = [(2, ((2495 : Nat) : Int)), (0, ((0 : Nat) : Int))] := by
    show ([(2, 2495 + 0), (0, 0 + 0)] : List MV) = _
    simp only [Int.add_zero, Int.zero_add, Int.one_mul]
    rfl
  show MCal KX14_count yX14_count _ _ _ h _
  rw [eA]
  obtain ⟨M, jj⟩ : ∃ M : Int, J14 h M := hV 2 (List.mem_of_getElem? (i := 0) rfl)
  have gg := (str_of (by decide +kernel) st : Str t14 r14 h)
  refine MCal.mono (fun o h' w => ?_) (h_X14_count jj gg)
  obtain ⟨o1, o2, w⟩ := w
  obtain ⟨w1, w⟩ := w
  obtain ⟨oo, j2, g2⟩ := w
  obtain ⟨S, F⟩ := ends14 st oo g2
  refine ⟨fun v => if v < 200 then ρ v else o.2.2, by exact fun v hv => if_pos (bltN (List.all_eq_true.mp (show (cAv ct_X14_count_zero).all (fun v => Nat.blt v 200) = true by decide +kernel) v (zmem_of hv))), ⟨o1, Prod.ext o2 rfl⟩, S, F, fun _ y => absurd y List.not_mem_nil, ?_, ?_, List.forall_mem_cons.mpr ⟨⟨_, j2⟩, fun _ y => absurd y List.not_mem_nil⟩, fun _ y => absurd y List.not_mem_nil⟩
  · refine List.forall_mem_cons.mpr ⟨?_, fun _ y => absurd y List.not_mem_nil⟩
    · show (0 : Int) ≤ 3 + ((-1) * o.2.2 + 0)
      omega
  · exact fun _ y => absurd y List.not_mem_nil
def ct_X14_count_any : ZCt := (547, [(2, (2495, [])), (0, (0, [(0, 1)]))], [], [], [2], [(2495, 2513, 0, 1099511627775)], some (0, 200), [], [], [], [2], [], [], 0, 0, [])
set_option maxRecDepth 100000 in
set_option maxHeartbeats 4000000 in
theorem ok_X14_count_any : CtOk zG zT ct_X14_count_any := by
  refine ⟨by decide +kernel, fun q hq ρ h st hE hF hV _ => ?_⟩
  cases (show some ((KX14_count, yX14_count, 14, 1, 0) : MR) = some q from hq)
  have eA : ((kA ct_X14_count_any).map fun q => (q.1, zv ρ q.2) : List MV) = [(2, ((2495 : Nat) : Int)), (0, ρ 0)] := by
    show ([(2, 2495 + 0), (0, 0 + (1 * ρ 0 + 0))] : List MV) = _
    simp only [Int.add_zero, Int.zero_add, Int.one_mul]
    rfl
  show MCal KX14_count yX14_count _ _ _ h _
  rw [eA]
  obtain ⟨M, jj⟩ : ∃ M : Int, J14 h M := hV 2 (List.mem_of_getElem? (i := 0) rfl)
  have gg := (str_of (by decide +kernel) st : Str t14 r14 h)
  refine MCal.mono (fun o h' w => ?_) (h_X14_count jj gg)
  obtain ⟨o1, o2, w⟩ := w
  obtain ⟨w1, w⟩ := w
  obtain ⟨oo, j2, g2⟩ := w
  obtain ⟨S, F⟩ := ends14 st oo g2
  refine ⟨fun v => if v < 200 then ρ v else o.2.2, by exact fun v hv => if_pos (bltN (List.all_eq_true.mp (show (cAv ct_X14_count_any).all (fun v => Nat.blt v 200) = true by decide +kernel) v (zmem_of hv))), ⟨o1, Prod.ext o2 rfl⟩, S, F, fun _ y => absurd y List.not_mem_nil, ?_, ?_, List.forall_mem_cons.mpr ⟨⟨_, j2⟩, fun _ y => absurd y List.not_mem_nil⟩, fun _ y => absurd y List.not_mem_nil⟩
  · exact fun _ y => absurd y List.not_mem_nil
  · exact fun _ y => absurd y List.not_mem_nil
