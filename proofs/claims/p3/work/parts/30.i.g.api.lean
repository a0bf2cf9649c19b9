/-! act of the reference, kind by kind -/
set_option maxRecDepth 20000 in
theorem ap_X20_act_n {h : MH} (J : JJ zJ h) (a0 a1 a2 a3 a4 a5 : Int) (f0 : 0 ≤ 95 - 1 * gz h 2570 6) (f1 : 0 ≤ -1 - 1 * a0) : MCal KX20_act yX20_act 0 0 [(2, ((2448 : Nat) : Int)), (0, a0), (0, a1), (0, a2), (0, a3), (0, a4), (0, a5)] h (mRL (fun _ h2 => JJ zJ h2 ∧ Frm (kMd ct_X20_act_n) h h2 ∧ gz h2 2570 6 ≤ gz h 2570 6 + 1)) := by
  have z := JJ.call2 (q := (KX20_act, yX20_act, 20, 6, 0)) ok_X20_act_n (by decide +kernel) rfl (ρ := (fun v => match v with
    | 0 => a0
    | 1 => a1
    | 2 => a2
    | 3 => a3
    | 4 => a4
    | 5 => a5
    | 50 => gz h 2570 6
    | _ => 0)) J (List.forall_mem_cons.mpr ⟨rfl, (fun e he => absurd he List.not_mem_nil)⟩) (by
      intro f hf
      have hf : f ∈ [((95 : Int), [((50 : Nat), ((-1) : Int))]), (((-1) : Int), [((0 : Nat), ((-1) : Int))])] := hf
      simp only [List.mem_cons, List.not_mem_nil, or_false] at hf
      rcases hf with rfl | rfl <;> simp only [zv, zl] <;> omega)
  have e : (kA ct_X20_act_n).map (fun q => (q.1, zv (fun v => match v with
    | 0 => a0
    | 1 => a1
    | 2 => a2
    | 3 => a3
    | 4 => a4
    | 5 => a5
    | 50 => gz h 2570 6
    | _ => 0) q.2)) = [(2, ((2448 : Nat) : Int)), (0, a0), (0, a1), (0, a2), (0, a3), (0, a4), (0, a5)] := by
    show [((2 : Nat), (2448 : Int) + 0), (0, 0 + (1 * a0 + 0)), (0, 0 + (1 * a1 + 0)), (0, 0 + (1 * a2 + 0)), (0, 0 + (1 * a3 + 0)), (0, 0 + (1 * a4 + 0)), (0, 0 + (1 * a5 + 0))] = _
    simp only [show ∀ a : Int, (0 : Int) + (1 * a + 0) = a from fun a => by omega]
    rfl
  rw [e] at z
  refine MCal.mono ?_ z
  rintro ⟨o1, o2⟩ h' ⟨J', ρ', e1, e2, e3, e4, e5, e6, e7, e8, e9⟩
  have e2 : o1 = 1 ∧ o2 = (1, ρ' 200) := e2
  obtain ⟨rfl, rfl⟩ := e2
  have x1 : gz h' 2570 6 = ρ' 201 := e5 _ List.mem_cons_self
  have x2 : ρ' 50 = gz h 2570 6 := e1 50 (by decide)
  have f1 := e6 _ List.mem_cons_self
  have f2 := e6 _ (List.mem_cons_of_mem _ List.mem_cons_self)
  simp only [zv, zl] at f1 f2
  exact ⟨rfl, rfl, J', e4, by omega⟩
set_option maxRecDepth 20000 in
theorem ap_X20_act_k0 {h : MH} (J : JJ zJ h) (a0 a1 a2 a3 a4 a5 : Int) (f0 : 0 ≤ 95 - 1 * gz h 2570 6) (f1 : 0 ≤ 0 + 1 * a0) (f2 : 0 ≤ 99 - 1 * a0) : MCal KX20_act yX20_act 0 0 [(2, ((2448 : Nat) : Int)), (0, a0), (0, a1), (0, a2), (0, a3), (0, a4), (0, a5)] h (mRL (fun _ h2 => JJ zJ h2 ∧ Frm (kMd ct_X20_act_k0) h h2 ∧ gz h2 2570 6 ≤ gz h 2570 6 + 1)) := by
  have z := JJ.call2 (q := (KX20_act, yX20_act, 20, 6, 0)) ok_X20_act_k0 (by decide +kernel) rfl (ρ := (fun v => match v with
    | 0 => a0
    | 1 => a1
    | 2 => a2
    | 3 => a3
    | 4 => a4
    | 5 => a5
    | 50 => gz h 2570 6
    | _ => 0)) J (List.forall_mem_cons.mpr ⟨rfl, (fun e he => absurd he List.not_mem_nil)⟩) (by
      intro f hf
      have hf : f ∈ [((95 : Int), [((50 : Nat), ((-1) : Int))]), ((0 : Int), [((0 : Nat), (1 : Int))]), ((99 : Int), [((0 : Nat), ((-1) : Int))])] := hf
      simp only [List.mem_cons, List.not_mem_nil, or_false] at hf
      rcases hf with rfl | rfl | rfl <;> simp only [zv, zl] <;> omega)
  have e : (kA ct_X20_act_k0).map (fun q => (q.1, zv (fun v => match v with
    | 0 => a0
    | 1 => a1
    | 2 => a2
    | 3 => a3
    | 4 => a4
    | 5 => a5
    | 50 => gz h 2570 6
    | _ => 0) q.2)) = [(2, ((2448 : Nat) : Int)), (0, a0), (0, a1), (0, a2), (0, a3), (0, a4), (0, a5)] := by
    show [((2 : Nat), (2448 : Int) + 0), (0, 0 + (1 * a0 + 0)), (0, 0 + (1 * a1 + 0)), (0, 0 + (1 * a2 + 0)), (0, 0 + (1 * a3 + 0)), (0, 0 + (1 * a4 + 0)), (0, 0 + (1 * a5 + 0))] = _
    simp only [show ∀ a : Int, (0 : Int) + (1 * a + 0) = a from fun a => by omega]
    rfl
  rw [e] at z
  refine MCal.mono ?_ z
  rintro ⟨o1, o2⟩ h' ⟨J', ρ', e1, e2, e3, e4, e5, e6, e7, e8, e9⟩
  have e2 : o1 = 1 ∧ o2 = (1, ρ' 200) := e2
  obtain ⟨rfl, rfl⟩ := e2
  have x1 : gz h' 2570 6 = ρ' 201 := e5 _ List.mem_cons_self
  have x2 : ρ' 50 = gz h 2570 6 := e1 50 (by decide)
  have f1 := e6 _ List.mem_cons_self
  have f2 := e6 _ (List.mem_cons_of_mem _ List.mem_cons_self)
  simp only [zv, zl] at f1 f2
  exact ⟨rfl, rfl, J', e4, by omega⟩
set_option maxRecDepth 20000 in
theorem ap_X20_act_k1 {h : MH} (J : JJ zJ h) (a0 a1 a2 a3 a4 a5 : Int) (f0 : 0 ≤ 95 - 1 * gz h 2570 6) (f1 : 0 ≤ -100 + 1 * a0) (f2 : 0 ≤ 199 - 1 * a0) : MCal KX20_act yX20_act 0 0 [(2, ((2448 : Nat) : Int)), (0, a0), (0, a1), (0, a2), (0, a3), (0, a4), (0, a5)] h (mRL (fun _ h2 => JJ zJ h2 ∧ Frm (kMd ct_X20_act_k1) h h2 ∧ gz h2 2570 6 ≤ gz h 2570 6 + 1)) := by
  have z := JJ.call2 (q := (KX20_act, yX20_act, 20, 6, 0)) ok_X20_act_k1 (by decide +kernel) rfl (ρ := (fun v => match v with
    | 0 => a0
    | 1 => a1
    | 2 => a2
    | 3 => a3
    | 4 => a4
    | 5 => a5
    | 50 => gz h 2570 6
    | _ => 0)) J (List.forall_mem_cons.mpr ⟨rfl, (fun e he => absurd he List.not_mem_nil)⟩) (by
      intro f hf
      have hf : f ∈ [((95 : Int), [((50 : Nat), ((-1) : Int))]), (((-100) : Int), [((0 : Nat), (1 : Int))]), ((199 : Int), [((0 : Nat), ((-1) : Int))])] := hf
      simp only [List.mem_cons, List.not_mem_nil, or_false] at hf
      rcases hf with rfl | rfl | rfl <;> simp only [zv, zl] <;> omega)
  have e : (kA ct_X20_act_k1).map (fun q => (q.1, zv (fun v => match v with
    | 0 => a0
    | 1 => a1
    | 2 => a2
    | 3 => a3
    | 4 => a4
    | 5 => a5
    | 50 => gz h 2570 6
    | _ => 0) q.2)) = [(2, ((2448 : Nat) : Int)), (0, a0), (0, a1), (0, a2), (0, a3), (0, a4), (0, a5)] := by
    show [((2 : Nat), (2448 : Int) + 0), (0, 0 + (1 * a0 + 0)), (0, 0 + (1 * a1 + 0)), (0, 0 + (1 * a2 + 0)), (0, 0 + (1 * a3 + 0)), (0, 0 + (1 * a4 + 0)), (0, 0 + (1 * a5 + 0))] = _
    simp only [show ∀ a : Int, (0 : Int) + (1 * a + 0) = a from fun a => by omega]
    rfl
  rw [e] at z
  refine MCal.mono ?_ z
  rintro ⟨o1, o2⟩ h' ⟨J', ρ', e1, e2, e3, e4, e5, e6, e7, e8, e9⟩
  have e2 : o1 = 1 ∧ o2 = (1, ρ' 200) := e2
  obtain ⟨rfl, rfl⟩ := e2
  have x1 : gz h' 2570 6 = ρ' 201 := e5 _ List.mem_cons_self
  have x2 : ρ' 50 = gz h 2570 6 := e1 50 (by decide)
  have f1 := e6 _ List.mem_cons_self
  have f2 := e6 _ (List.mem_cons_of_mem _ List.mem_cons_self)
  simp only [zv, zl] at f1 f2
  exact ⟨rfl, rfl, J', e4, by omega⟩
set_option maxRecDepth 20000 in
theorem ap_X20_act_k2 {h : MH} (J : JJ zJ h) (a0 a1 a2 a3 a4 a5 : Int) (f0 : 0 ≤ 95 - 1 * gz h 2570 6) (f1 : 0 ≤ -200 + 1 * a0) (f2 : 0 ≤ 299 - 1 * a0) : MCal KX20_act yX20_act 0 0 [(2, ((2448 : Nat) : Int)), (0, a0), (0, a1), (0, a2), (0, a3), (0, a4), (0, a5)] h (mRL (fun _ h2 => JJ zJ h2 ∧ Frm (kMd ct_X20_act_k2) h h2 ∧ gz h2 2570 6 ≤ gz h 2570 6 + 1)) := by
  have z := JJ.call2 (q := (KX20_act, yX20_act, 20, 6, 0)) ok_X20_act_k2 (by decide +kernel) rfl (ρ := (fun v => match v with
    | 0 => a0
    | 1 => a1
    | 2 => a2
    | 3 => a3
    | 4 => a4
    | 5 => a5
    | 50 => gz h 2570 6
    | _ => 0)) J (List.forall_mem_cons.mpr ⟨rfl, (fun e he => absurd he List.not_mem_nil)⟩) (by
      intro f hf
      have hf : f ∈ [((95 : Int), [((50 : Nat), ((-1) : Int))]), (((-200) : Int), [((0 : Nat), (1 : Int))]), ((299 : Int), [((0 : Nat), ((-1) : Int))])] := hf
      simp only [List.mem_cons, List.not_mem_nil, or_false] at hf
      rcases hf with rfl | rfl | rfl <;> simp only [zv, zl] <;> omega)
  have e : (kA ct_X20_act_k2).map (fun q => (q.1, zv (fun v => match v with
    | 0 => a0
    | 1 => a1
    | 2 => a2
    | 3 => a3
    | 4 => a4
    | 5 => a5
    | 50 => gz h 2570 6
    | _ => 0) q.2)) = [(2, ((2448 : Nat) : Int)), (0, a0), (0, a1), (0, a2), (0, a3), (0, a4), (0, a5)] := by
    show [((2 : Nat), (2448 : Int) + 0), (0, 0 + (1 * a0 + 0)), (0, 0 + (1 * a1 + 0)), (0, 0 + (1 * a2 + 0)), (0, 0 + (1 * a3 + 0)), (0, 0 + (1 * a4 + 0)), (0, 0 + (1 * a5 + 0))] = _
    simp only [show ∀ a : Int, (0 : Int) + (1 * a + 0) = a from fun a => by omega]
    rfl
  rw [e] at z
  refine MCal.mono ?_ z
  rintro ⟨o1, o2⟩ h' ⟨J', ρ', e1, e2, e3, e4, e5, e6, e7, e8, e9⟩
  have e2 : o1 = 1 ∧ o2 = (1, ρ' 200) := e2
  obtain ⟨rfl, rfl⟩ := e2
  have x1 : gz h' 2570 6 = ρ' 201 := e5 _ List.mem_cons_self
  have x2 : ρ' 50 = gz h 2570 6 := e1 50 (by decide)
  have f1 := e6 _ List.mem_cons_self
  have f2 := e6 _ (List.mem_cons_of_mem _ List.mem_cons_self)
  simp only [zv, zl] at f1 f2
  exact ⟨rfl, rfl, J', e4, by omega⟩
set_option maxRecDepth 20000 in
theorem ap_X20_act_k3 {h : MH} (J : JJ zJ h) (a0 a1 a2 a3 a4 a5 : Int) (f0 : 0 ≤ 95 - 1 * gz h 2570 6) (f1 : 0 ≤ -300 + 1 * a0) (f2 : 0 ≤ 399 - 1 * a0) : MCal KX20_act yX20_act 0 0 [(2, ((2448 : Nat) : Int)), (0, a0), (0, a1), (0, a2), (0, a3), (0, a4), (0, a5)] h (mRL (fun _ h2 => JJ zJ h2 ∧ Frm (kMd ct_X20_act_k3) h h2 ∧ gz h2 2570 6 ≤ gz h 2570 6 + 1)) := by
  have z := JJ.call2 (q := (KX20_act, yX20_act, 20, 6, 0)) ok_X20_act_k3 (by decide +kernel) rfl (ρ := (fun v => match v with
    | 0 => a0
    | 1 => a1
    | 2 => a2
    | 3 => a3
    | 4 => a4
    | 5 => a5
    | 50 => gz h 2570 6
    | _ => 0)) J (List.forall_mem_cons.mpr ⟨rfl, (fun e he => absurd he List.not_mem_nil)⟩) (by
      intro f hf
      have hf : f ∈ [((95 : Int), [((50 : Nat), ((-1) : Int))]), (((-300) : Int), [((0 : Nat), (1 : Int))]), ((399 : Int), [((0 : Nat), ((-1) : Int))])] := hf
      simp only [List.mem_cons, List.not_mem_nil, or_false] at hf
      rcases hf with rfl | rfl | rfl <;> simp only [zv, zl] <;> omega)
  have e : (kA ct_X20_act_k3).map (fun q => (q.1, zv (fun v => match v with
    | 0 => a0
    | 1 => a1
    | 2 => a2
    | 3 => a3
    | 4 => a4
    | 5 => a5
    | 50 => gz h 2570 6
    | _ => 0) q.2)) = [(2, ((2448 : Nat) : Int)), (0, a0), (0, a1), (0, a2), (0, a3), (0, a4), (0, a5)] := by
    show [((2 : Nat), (2448 : Int) + 0), (0, 0 + (1 * a0 + 0)), (0, 0 + (1 * a1 + 0)), (0, 0 + (1 * a2 + 0)), (0, 0 + (1 * a3 + 0)), (0, 0 + (1 * a4 + 0)), (0, 0 + (1 * a5 + 0))] = _
    simp only [show ∀ a : Int, (0 : Int) + (1 * a + 0) = a from fun a => by omega]
    rfl
  rw [e] at z
  refine MCal.mono ?_ z
  rintro ⟨o1, o2⟩ h' ⟨J', ρ', e1, e2, e3, e4, e5, e6, e7, e8, e9⟩
  have e2 : o1 = 1 ∧ o2 = (1, ρ' 200) := e2
  obtain ⟨rfl, rfl⟩ := e2
  have x1 : gz h' 2570 6 = ρ' 201 := e5 _ List.mem_cons_self
  have x2 : ρ' 50 = gz h 2570 6 := e1 50 (by decide)
  have f1 := e6 _ List.mem_cons_self
  have f2 := e6 _ (List.mem_cons_of_mem _ List.mem_cons_self)
  simp only [zv, zl] at f1 f2
  exact ⟨rfl, rfl, J', e4, by omega⟩
set_option maxRecDepth 20000 in
theorem ap_X20_act_k4lo {h : MH} (J : JJ zJ h) (a0 a1 a2 a3 a4 a5 : Int) (f0 : 0 ≤ 95 - 1 * gz h 2570 6) (f1 : 0 ≤ -400 + 1 * a0) (f2 : 0 ≤ 405 - 1 * a0) : MCal KX20_act yX20_act 0 0 [(2, ((2448 : Nat) : Int)), (0, a0), (0, a1), (0, a2), (0, a3), (0, a4), (0, a5)] h (mRL (fun _ h2 => JJ zJ h2 ∧ Frm (kMd ct_X20_act_k4lo) h h2 ∧ gz h2 2570 6 ≤ gz h 2570 6 + 1)) := by
  have z := JJ.call2 (q := (KX20_act, yX20_act, 20, 6, 0)) ok_X20_act_k4lo (by decide +kernel) rfl (ρ := (fun v => match v with
    | 0 => a0
    | 1 => a1
    | 2 => a2
    | 3 => a3
    | 4 => a4
    | 5 => a5
    | 50 => gz h 2570 6
    | _ => 0)) J (List.forall_mem_cons.mpr ⟨rfl, (fun e he => absurd he List.not_mem_nil)⟩) (by
      intro f hf
      have hf : f ∈ [((95 : Int), [((50 : Nat), ((-1) : Int))]), (((-400) : Int), [((0 : Nat), (1 : Int))]), ((405 : Int), [((0 : Nat), ((-1) : Int))])] := hf
      simp only [List.mem_cons, List.not_mem_nil, or_false] at hf
      rcases hf with rfl | rfl | rfl <;> simp only [zv, zl] <;> omega)
  have e : (kA ct_X20_act_k4lo).map (fun q => (q.1, zv (fun v => match v with
    | 0 => a0
    | 1 => a1
    | 2 => a2
    | 3 => a3
    | 4 => a4
    | 5 => a5
    | 50 => gz h 2570 6
    | _ => 0) q.2)) = [(2, ((2448 : Nat) : Int)), (0, a0), (0, a1), (0, a2), (0, a3), (0, a4), (0, a5)] := by
    show [((2 : Nat), (2448 : Int) + 0), (0, 0 + (1 * a0 + 0)), (0, 0 + (1 * a1 + 0)), (0, 0 + (1 * a2 + 0)), (0, 0 + (1 * a3 + 0)), (0, 0 + (1 * a4 + 0)), (0, 0 + (1 * a5 + 0))] = _
    simp only [show ∀ a : Int, (0 : Int) + (1 * a + 0) = a from fun a => by omega]
    rfl
  rw [e] at z
  refine MCal.mono ?_ z
  rintro ⟨o1, o2⟩ h' ⟨J', ρ', e1, e2, e3, e4, e5, e6, e7, e8, e9⟩
  have e2 : o1 = 1 ∧ o2 = (1, ρ' 200) := e2
  obtain ⟨rfl, rfl⟩ := e2
  have x1 : gz h' 2570 6 = ρ' 201 := e5 _ List.mem_cons_self
  have x2 : ρ' 50 = gz h 2570 6 := e1 50 (by decide)
  have f1 := e6 _ List.mem_cons_self
  have f2 := e6 _ (List.mem_cons_of_mem _ List.mem_cons_self)
  simp only [zv, zl] at f1 f2
  exact ⟨rfl, rfl, J', e4, by omega⟩
set_option maxRecDepth 20000 in
theorem ap_X20_act_k4hi {h : MH} (J : JJ zJ h) (a0 a1 a2 a3 a4 a5 : Int) (f0 : 0 ≤ 95 - 1 * gz h 2570 6) (f1 : 0 ≤ -407 + 1 * a0) (f2 : 0 ≤ 499 - 1 * a0) : MCal KX20_act yX20_act 0 0 [(2, ((2448 : Nat) : Int)), (0, a0), (0, a1), (0, a2), (0, a3), (0, a4), (0, a5)] h (mRL (fun _ h2 => JJ zJ h2 ∧ Frm (kMd ct_X20_act_k4hi) h h2 ∧ gz h2 2570 6 ≤ gz h 2570 6 + 1)) := by
  have z := JJ.call2 (q := (KX20_act, yX20_act, 20, 6, 0)) ok_X20_act_k4hi (by decide +kernel) rfl (ρ := (fun v => match v with
    | 0 => a0
    | 1 => a1
    | 2 => a2
    | 3 => a3
    | 4 => a4
    | 5 => a5
    | 50 => gz h 2570 6
    | _ => 0)) J (List.forall_mem_cons.mpr ⟨rfl, (fun e he => absurd he List.not_mem_nil)⟩) (by
      intro f hf
      have hf : f ∈ [((95 : Int), [((50 : Nat), ((-1) : Int))]), (((-407) : Int), [((0 : Nat), (1 : Int))]), ((499 : Int), [((0 : Nat), ((-1) : Int))])] := hf
      simp only [List.mem_cons, List.not_mem_nil, or_false] at hf
      rcases hf with rfl | rfl | rfl <;> simp only [zv, zl] <;> omega)
  have e : (kA ct_X20_act_k4hi).map (fun q => (q.1, zv (fun v => match v with
    | 0 => a0
    | 1 => a1
    | 2 => a2
    | 3 => a3
    | 4 => a4
    | 5 => a5
    | 50 => gz h 2570 6
    | _ => 0) q.2)) = [(2, ((2448 : Nat) : Int)), (0, a0), (0, a1), (0, a2), (0, a3), (0, a4), (0, a5)] := by
    show [((2 : Nat), (2448 : Int) + 0), (0, 0 + (1 * a0 + 0)), (0, 0 + (1 * a1 + 0)), (0, 0 + (1 * a2 + 0)), (0, 0 + (1 * a3 + 0)), (0, 0 + (1 * a4 + 0)), (0, 0 + (1 * a5 + 0))] = _
    simp only [show ∀ a : Int, (0 : Int) + (1 * a + 0) = a from fun a => by omega]
    rfl
  rw [e] at z
  refine MCal.mono ?_ z
  rintro ⟨o1, o2⟩ h' ⟨J', ρ', e1, e2, e3, e4, e5, e6, e7, e8, e9⟩
  have e2 : o1 = 1 ∧ o2 = (1, ρ' 200) := e2
  obtain ⟨rfl, rfl⟩ := e2
  have x1 : gz h' 2570 6 = ρ' 201 := e5 _ List.mem_cons_self
  have x2 : ρ' 50 = gz h 2570 6 := e1 50 (by decide)
  have f1 := e6 _ List.mem_cons_self
  have f2 := e6 _ (List.mem_cons_of_mem _ List.mem_cons_self)
  simp only [zv, zl] at f1 f2
  exact ⟨rfl, rfl, J', e4, by omega⟩
set_option maxRecDepth 20000 in
theorem ap_X20_act_k5 {h : MH} (J : JJ zJ h) (a0 a1 a2 a3 a4 a5 : Int) (f0 : 0 ≤ 95 - 1 * gz h 2570 6) (f1 : 0 ≤ -500 + 1 * a0) (f2 : 0 ≤ 599 - 1 * a0) : MCal KX20_act yX20_act 0 0 [(2, ((2448 : Nat) : Int)), (0, a0), (0, a1), (0, a2), (0, a3), (0, a4), (0, a5)] h (mRL (fun _ h2 => JJ zJ h2 ∧ Frm (kMd ct_X20_act_k5) h h2 ∧ gz h2 2570 6 ≤ gz h 2570 6 + 1)) := by
  have z := JJ.call2 (q := (KX20_act, yX20_act, 20, 6, 0)) ok_X20_act_k5 (by decide +kernel) rfl (ρ := (fun v => match v with
    | 0 => a0
    | 1 => a1
    | 2 => a2
    | 3 => a3
    | 4 => a4
    | 5 => a5
    | 50 => gz h 2570 6
    | _ => 0)) J (List.forall_mem_cons.mpr ⟨rfl, (fun e he => absurd he List.not_mem_nil)⟩) (by
      intro f hf
      have hf : f ∈ [((95 : Int), [((50 : Nat), ((-1) : Int))]), (((-500) : Int), [((0 : Nat), (1 : Int))]), ((599 : Int), [((0 : Nat), ((-1) : Int))])] := hf
      simp only [List.mem_cons, List.not_mem_nil, or_false] at hf
      rcases hf with rfl | rfl | rfl <;> simp only [zv, zl] <;> omega)
  have e : (kA ct_X20_act_k5).map (fun q => (q.1, zv (fun v => match v with
    | 0 => a0
    | 1 => a1
    | 2 => a2
    | 3 => a3
    | 4 => a4
    | 5 => a5
    | 50 => gz h 2570 6
    | _ => 0) q.2)) = [(2, ((2448 : Nat) : Int)), (0, a0), (0, a1), (0, a2), (0, a3), (0, a4), (0, a5)] := by
    show [((2 : Nat), (2448 : Int) + 0), (0, 0 + (1 * a0 + 0)), (0, 0 + (1 * a1 + 0)), (0, 0 + (1 * a2 + 0)), (0, 0 + (1 * a3 + 0)), (0, 0 + (1 * a4 + 0)), (0, 0 + (1 * a5 + 0))] = _
    simp only [show ∀ a : Int, (0 : Int) + (1 * a + 0) = a from fun a => by omega]
    rfl
  rw [e] at z
  refine MCal.mono ?_ z
  rintro ⟨o1, o2⟩ h' ⟨J', ρ', e1, e2, e3, e4, e5, e6, e7, e8, e9⟩
  have e2 : o1 = 1 ∧ o2 = (1, ρ' 200) := e2
  obtain ⟨rfl, rfl⟩ := e2
  have x1 : gz h' 2570 6 = ρ' 201 := e5 _ List.mem_cons_self
  have x2 : ρ' 50 = gz h 2570 6 := e1 50 (by decide)
  have f1 := e6 _ List.mem_cons_self
  have f2 := e6 _ (List.mem_cons_of_mem _ List.mem_cons_self)
  simp only [zv, zl] at f1 f2
  exact ⟨rfl, rfl, J', e4, by omega⟩
set_option maxRecDepth 20000 in
theorem ap_X20_act_k6 {h : MH} (J : JJ zJ h) (a0 a1 a2 a3 a4 a5 : Int) (f0 : 0 ≤ 95 - 1 * gz h 2570 6) (f1 : 0 ≤ -600 + 1 * a0) (f2 : 0 ≤ 699 - 1 * a0) : MCal KX20_act yX20_act 0 0 [(2, ((2448 : Nat) : Int)), (0, a0), (0, a1), (0, a2), (0, a3), (0, a4), (0, a5)] h (mRL (fun _ h2 => JJ zJ h2 ∧ Frm (kMd ct_X20_act_k6) h h2 ∧ gz h2 2570 6 ≤ gz h 2570 6 + 1)) := by
  have z := JJ.call2 (q := (KX20_act, yX20_act, 20, 6, 0)) ok_X20_act_k6 (by decide +kernel) rfl (ρ := (fun v => match v with
    | 0 => a0
    | 1 => a1
    | 2 => a2
    | 3 => a3
    | 4 => a4
    | 5 => a5
    | 50 => gz h 2570 6
    | _ => 0)) J (List.forall_mem_cons.mpr ⟨rfl, (fun e he => absurd he List.not_mem_nil)⟩) (by
      intro f hf
      have hf : f ∈ [((95 : Int), [((50 : Nat), ((-1) : Int))]), (((-600) : Int), [((0 : Nat), (1 : Int))]), ((699 : Int), [((0 : Nat), ((-1) : Int))])] := hf
      simp only [List.mem_cons, List.not_mem_nil, or_false] at hf
      rcases hf with rfl | rfl | rfl <;> simp only [zv, zl] <;> omega)
  have e : (kA ct_X20_act_k6).map (fun q => (q.1, zv (fun v => match v with
    | 0 => a0
    | 1 => a1
    | 2 => a2
    | 3 => a3
    | 4 => a4
    | 5 => a5
    | 50 => gz h 2570 6
    | _ => 0) q.2)) = [(2, ((2448 : Nat) : Int)), (0, a0), (0, a1), (0, a2), (0, a3), (0, a4), (0, a5)] := by
    show [((2 : Nat), (2448 : Int) + 0), (0, 0 + (1 * a0 + 0)), (0, 0 + (1 * a1 + 0)), (0, 0 + (1 * a2 + 0)), (0, 0 + (1 * a3 + 0)), (0, 0 + (1 * a4 + 0)), (0, 0 + (1 * a5 + 0))] = _
    simp only [show ∀ a : Int, (0 : Int) + (1 * a + 0) = a from fun a => by omega]
    rfl
  rw [e] at z
  refine MCal.mono ?_ z
  rintro ⟨o1, o2⟩ h' ⟨J', ρ', e1, e2, e3, e4, e5, e6, e7, e8, e9⟩
  have e2 : o1 = 1 ∧ o2 = (1, ρ' 200) := e2
  obtain ⟨rfl, rfl⟩ := e2
  have x1 : gz h' 2570 6 = ρ' 201 := e5 _ List.mem_cons_self
  have x2 : ρ' 50 = gz h 2570 6 := e1 50 (by decide)
  have f1 := e6 _ List.mem_cons_self
  have f2 := e6 _ (List.mem_cons_of_mem _ List.mem_cons_self)
  simp only [zv, zl] at f1 f2
  exact ⟨rfl, rfl, J', e4, by omega⟩
set_option maxRecDepth 20000 in
theorem ap_X20_act_k7 {h : MH} (J : JJ zJ h) (a0 a1 a2 a3 a4 a5 : Int) (f0 : 0 ≤ 95 - 1 * gz h 2570 6) (f1 : 0 ≤ -700 + 1 * a0) (f2 : 0 ≤ 799 - 1 * a0) : MCal KX20_act yX20_act 0 0 [(2, ((2448 : Nat) : Int)), (0, a0), (0, a1), (0, a2), (0, a3), (0, a4), (0, a5)] h (mRL (fun _ h2 => JJ zJ h2 ∧ Frm (kMd ct_X20_act_k7) h h2 ∧ gz h2 2570 6 ≤ gz h 2570 6 + 1)) := by
  have z := JJ.call2 (q := (KX20_act, yX20_act, 20, 6, 0)) ok_X20_act_k7 (by decide +kernel) rfl (ρ := (fun v => match v with
    | 0 => a0
    | 1 => a1
    | 2 => a2
    | 3 => a3
    | 4 => a4
    | 5 => a5
    | 50 => gz h 2570 6
    | _ => 0)) J (List.forall_mem_cons.mpr ⟨rfl, (fun e he => absurd he List.not_mem_nil)⟩) (by
      intro f hf
      have hf : f ∈ [((95 : Int), [((50 : Nat), ((-1) : Int))]), (((-700) : Int), [((0 : Nat), (1 : Int))]), ((799 : Int), [((0 : Nat), ((-1) : Int))])] := hf
      simp only [List.mem_cons, List.not_mem_nil, or_false] at hf
      rcases hf with rfl | rfl | rfl <;> simp only [zv, zl] <;> omega)
  have e : (kA ct_X20_act_k7).map (fun q => (q.1, zv (fun v => match v with
    | 0 => a0
    | 1 => a1
    | 2 => a2
    | 3 => a3
    | 4 => a4
    | 5 => a5
    | 50 => gz h 2570 6
    | _ => 0) q.2)) = [(2, ((2448 : Nat) : Int)), (0, a0), (0, a1), (0, a2), (0, a3), (0, a4), (0, a5)] := by
    show [((2 : Nat), (2448 : Int) + 0), (0, 0 + (1 * a0 + 0)), (0, 0 + (1 * a1 + 0)), (0, 0 + (1 * a2 + 0)), (0, 0 + (1 * a3 + 0)), (0, 0 + (1 * a4 + 0)), (0, 0 + (1 * a5 + 0))] = _
    simp only [show ∀ a : Int, (0 : Int) + (1 * a + 0) = a from fun a => by omega]
    rfl
  rw [e] at z
  refine MCal.mono ?_ z
  rintro ⟨o1, o2⟩ h' ⟨J', ρ', e1, e2, e3, e4, e5, e6, e7, e8, e9⟩
  have e2 : o1 = 1 ∧ o2 = (1, ρ' 200) := e2
  obtain ⟨rfl, rfl⟩ := e2
  have x1 : gz h' 2570 6 = ρ' 201 := e5 _ List.mem_cons_self
  have x2 : ρ' 50 = gz h 2570 6 := e1 50 (by decide)
  have f1 := e6 _ List.mem_cons_self
  have f2 := e6 _ (List.mem_cons_of_mem _ List.mem_cons_self)
  simp only [zv, zl] at f1 f2
  exact ⟨rfl, rfl, J', e4, by omega⟩
set_option maxRecDepth 20000 in
theorem ap_X20_act_kd {h : MH} (J : JJ zJ h) (a0 a1 a2 a3 a4 a5 : Int) (f0 : 0 ≤ 95 - 1 * gz h 2570 6) (f1 : 0 ≤ -800 + 1 * a0) : MCal KX20_act yX20_act 0 0 [(2, ((2448 : Nat) : Int)), (0, a0), (0, a1), (0, a2), (0, a3), (0, a4), (0, a5)] h (mRL (fun _ h2 => JJ zJ h2 ∧ Frm (kMd ct_X20_act_kd) h h2 ∧ gz h2 2570 6 ≤ gz h 2570 6 + 1)) := by
  have z := JJ.call2 (q := (KX20_act, yX20_act, 20, 6, 0)) ok_X20_act_kd (by decide +kernel) rfl (ρ := (fun v => match v with
    | 0 => a0
    | 1 => a1
    | 2 => a2
    | 3 => a3
    | 4 => a4
    | 5 => a5
    | 50 => gz h 2570 6
    | _ => 0)) J (List.forall_mem_cons.mpr ⟨rfl, (fun e he => absurd he List.not_mem_nil)⟩) (by
      intro f hf
      have hf : f ∈ [((95 : Int), [((50 : Nat), ((-1) : Int))]), (((-800) : Int), [((0 : Nat), (1 : Int))])] := hf
      simp only [List.mem_cons, List.not_mem_nil, or_false] at hf
      rcases hf with rfl | rfl <;> simp only [zv, zl] <;> omega)
  have e : (kA ct_X20_act_kd).map (fun q => (q.1, zv (fun v => match v with
    | 0 => a0
    | 1 => a1
    | 2 => a2
    | 3 => a3
    | 4 => a4
    | 5 => a5
    | 50 => gz h 2570 6
    | _ => 0) q.2)) = [(2, ((2448 : Nat) : Int)), (0, a0), (0, a1), (0, a2), (0, a3), (0, a4), (0, a5)] := by
    show [((2 : Nat), (2448 : Int) + 0), (0, 0 + (1 * a0 + 0)), (0, 0 + (1 * a1 + 0)), (0, 0 + (1 * a2 + 0)), (0, 0 + (1 * a3 + 0)), (0, 0 + (1 * a4 + 0)), (0, 0 + (1 * a5 + 0))] = _
    simp only [show ∀ a : Int, (0 : Int) + (1 * a + 0) = a from fun a => by omega]
    rfl
  rw [e] at z
  refine MCal.mono ?_ z
  rintro ⟨o1, o2⟩ h' ⟨J', ρ', e1, e2, e3, e4, e5, e6, e7, e8, e9⟩
  have e2 : o1 = 1 ∧ o2 = (1, ρ' 200) := e2
  obtain ⟨rfl, rfl⟩ := e2
  have x1 : gz h' 2570 6 = ρ' 201 := e5 _ List.mem_cons_self
  have x2 : ρ' 50 = gz h 2570 6 := e1 50 (by decide)
  have f1 := e6 _ List.mem_cons_self
  have f2 := e6 _ (List.mem_cons_of_mem _ List.mem_cons_self)
  simp only [zv, zl] at f1 f2
  exact ⟨rfl, rfl, J', e4, by omega⟩
