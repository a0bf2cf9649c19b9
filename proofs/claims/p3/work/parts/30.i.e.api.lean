/-! the contracts of the calls that the law makes -/
set_option maxRecDepth 20000 in
theorem ap_X11_act_k2lo {h : MH} (J : JJ zJ h) (a0 a1 a2 a3 a4 a5 : Int) (f0 : 0 ≤ -200 + 1 * a0) (f1 : 0 ≤ 201 - 1 * a0) : MCal KX11_act yX11_act 0 0 [(2, ((4 : Nat) : Int)), (0, a0), (0, a1), (0, a2), (0, a3), (0, a4), (0, a5)] h (mRL (fun _ h2 => JJ zJ h2 ∧ Frm (kMd ct_X11_act_k2lo) h h2)) := by
  have z := JJ.call2 (q := (KX11_act, yX11_act, 11, 6, 0)) ok_X11_act_k2lo (by decide +kernel) rfl (ρ := (fun v => match v with
    | 0 => a0
    | 1 => a1
    | 2 => a2
    | 3 => a3
    | 4 => a4
    | 5 => a5
    | _ => 0)) J (fun e he => absurd he List.not_mem_nil) (by
      intro f hf
      have hf : f ∈ [(((-200) : Int), [((0 : Nat), (1 : Int))]), ((201 : Int), [((0 : Nat), ((-1) : Int))])] := hf
      simp only [List.mem_cons, List.not_mem_nil, or_false] at hf
      rcases hf with rfl | rfl <;> simp only [zv, zl] <;> omega)
  have e : (kA ct_X11_act_k2lo).map (fun q => (q.1, zv (fun v => match v with
    | 0 => a0
    | 1 => a1
    | 2 => a2
    | 3 => a3
    | 4 => a4
    | 5 => a5
    | _ => 0) q.2)) = [(2, ((4 : Nat) : Int)), (0, a0), (0, a1), (0, a2), (0, a3), (0, a4), (0, a5)] := by
    show [((2 : Nat), (4 : Int) + 0), (0, 0 + (1 * a0 + 0)), (0, 0 + (1 * a1 + 0)), (0, 0 + (1 * a2 + 0)), (0, 0 + (1 * a3 + 0)), (0, 0 + (1 * a4 + 0)), (0, 0 + (1 * a5 + 0))] = _
    simp only [show ∀ a : Int, (0 : Int) + (1 * a + 0) = a from fun a => by omega]
    rfl
  rw [e] at z
  refine MCal.mono ?_ z
  rintro ⟨o1, o2⟩ h' ⟨J', ρ', e1, e2, e3, e4, e5, e6, e7, e8, e9⟩
  have e2 : o1 = 1 ∧ o2 = (1, ρ' 200) := e2
  obtain ⟨rfl, rfl⟩ := e2
  exact ⟨rfl, rfl, J', e4⟩
set_option maxRecDepth 20000 in
theorem ap_X11_act_k2m2 {h : MH} (J : JJ zJ h) (a0 a1 a2 a3 a4 a5 : Int) (f0 : 0 ≤ -202 + 1 * a0) (f1 : 0 ≤ 202 - 1 * a0) (f2 : 0 ≤ 0 + 1 * a1) (f3 : 0 ≤ -1 - 1 * a1 + 1 * gz h 161 0) : MCal KX11_act yX11_act 0 0 [(2, ((4 : Nat) : Int)), (0, a0), (0, a1), (0, a2), (0, a3), (0, a4), (0, a5)] h (mRL (fun _ h2 => JJ zJ h2 ∧ Frm (kMd ct_X11_act_k2m2) h h2)) := by
  have z := JJ.call2 (q := (KX11_act, yX11_act, 11, 6, 0)) ok_X11_act_k2m2 (by decide +kernel) rfl (ρ := (fun v => match v with
    | 0 => a0
    | 1 => a1
    | 2 => a2
    | 3 => a3
    | 4 => a4
    | 5 => a5
    | 50 => gz h 161 0
    | _ => 0)) J (List.forall_mem_cons.mpr ⟨rfl, (fun e he => absurd he List.not_mem_nil)⟩) (by
      intro f hf
      have hf : f ∈ [(((-202) : Int), [((0 : Nat), (1 : Int))]), ((202 : Int), [((0 : Nat), ((-1) : Int))]), ((0 : Int), [((1 : Nat), (1 : Int))]), (((-1) : Int), [((1 : Nat), ((-1) : Int)), ((50 : Nat), (1 : Int))])] := hf
      simp only [List.mem_cons, List.not_mem_nil, or_false] at hf
      rcases hf with rfl | rfl | rfl | rfl <;> simp only [zv, zl] <;> omega)
  have e : (kA ct_X11_act_k2m2).map (fun q => (q.1, zv (fun v => match v with
    | 0 => a0
    | 1 => a1
    | 2 => a2
    | 3 => a3
    | 4 => a4
    | 5 => a5
    | 50 => gz h 161 0
    | _ => 0) q.2)) = [(2, ((4 : Nat) : Int)), (0, a0), (0, a1), (0, a2), (0, a3), (0, a4), (0, a5)] := by
    show [((2 : Nat), (4 : Int) + 0), (0, 0 + (1 * a0 + 0)), (0, 0 + (1 * a1 + 0)), (0, 0 + (1 * a2 + 0)), (0, 0 + (1 * a3 + 0)), (0, 0 + (1 * a4 + 0)), (0, 0 + (1 * a5 + 0))] = _
    simp only [show ∀ a : Int, (0 : Int) + (1 * a + 0) = a from fun a => by omega]
    rfl
  rw [e] at z
  refine MCal.mono ?_ z
  rintro ⟨o1, o2⟩ h' ⟨J', ρ', e1, e2, e3, e4, e5, e6, e7, e8, e9⟩
  have e2 : o1 = 1 ∧ o2 = (1, ρ' 200) := e2
  obtain ⟨rfl, rfl⟩ := e2
  exact ⟨rfl, rfl, J', e4⟩
set_option maxRecDepth 20000 in
theorem ap_X11_act_k2m3 {h : MH} (J : JJ zJ h) (a0 a1 a2 a3 a4 a5 : Int) (f0 : 0 ≤ -203 + 1 * a0) (f1 : 0 ≤ 203 - 1 * a0) (f2 : 0 ≤ 0 + 1 * a1) (f3 : 0 ≤ 0 - 1 * a1 + 1 * gz h 161 0) : MCal KX11_act yX11_act 0 0 [(2, ((4 : Nat) : Int)), (0, a0), (0, a1), (0, a2), (0, a3), (0, a4), (0, a5)] h (mRL (fun _ h2 => JJ zJ h2 ∧ Frm (kMd ct_X11_act_k2m3) h h2)) := by
  have z := JJ.call2 (q := (KX11_act, yX11_act, 11, 6, 0)) ok_X11_act_k2m3 (by decide +kernel) rfl (ρ := (fun v => match v with
    | 0 => a0
    | 1 => a1
    | 2 => a2
    | 3 => a3
    | 4 => a4
    | 5 => a5
    | 50 => gz h 161 0
    | _ => 0)) J (List.forall_mem_cons.mpr ⟨rfl, (fun e he => absurd he List.not_mem_nil)⟩) (by
      intro f hf
      have hf : f ∈ [(((-203) : Int), [((0 : Nat), (1 : Int))]), ((203 : Int), [((0 : Nat), ((-1) : Int))]), ((0 : Int), [((1 : Nat), (1 : Int))]), ((0 : Int), [((1 : Nat), ((-1) : Int)), ((50 : Nat), (1 : Int))])] := hf
      simp only [List.mem_cons, List.not_mem_nil, or_false] at hf
      rcases hf with rfl | rfl | rfl | rfl <;> simp only [zv, zl] <;> omega)
  have e : (kA ct_X11_act_k2m3).map (fun q => (q.1, zv (fun v => match v with
    | 0 => a0
    | 1 => a1
    | 2 => a2
    | 3 => a3
    | 4 => a4
    | 5 => a5
    | 50 => gz h 161 0
    | _ => 0) q.2)) = [(2, ((4 : Nat) : Int)), (0, a0), (0, a1), (0, a2), (0, a3), (0, a4), (0, a5)] := by
    show [((2 : Nat), (4 : Int) + 0), (0, 0 + (1 * a0 + 0)), (0, 0 + (1 * a1 + 0)), (0, 0 + (1 * a2 + 0)), (0, 0 + (1 * a3 + 0)), (0, 0 + (1 * a4 + 0)), (0, 0 + (1 * a5 + 0))] = _
    simp only [show ∀ a : Int, (0 : Int) + (1 * a + 0) = a from fun a => by omega]
    rfl
  rw [e] at z
  refine MCal.mono ?_ z
  rintro ⟨o1, o2⟩ h' ⟨J', ρ', e1, e2, e3, e4, e5, e6, e7, e8, e9⟩
  have e2 : o1 = 1 ∧ o2 = (1, ρ' 200) := e2
  obtain ⟨rfl, rfl⟩ := e2
  exact ⟨rfl, rfl, J', e4⟩
set_option maxRecDepth 20000 in
theorem ap_X11_act_k2m4 {h : MH} (J : JJ zJ h) (a0 a1 a2 a3 a4 a5 : Int) (f0 : 0 ≤ -204 + 1 * a0) (f1 : 0 ≤ 204 - 1 * a0) (f2 : 0 ≤ 0 + 1 * a1) (f3 : 0 ≤ -1 - 1 * a1 + 1 * gz h 161 0) : MCal KX11_act yX11_act 0 0 [(2, ((4 : Nat) : Int)), (0, a0), (0, a1), (0, a2), (0, a3), (0, a4), (0, a5)] h (mRL (fun _ h2 => JJ zJ h2 ∧ Frm (kMd ct_X11_act_k2m4) h h2)) := by
  have z := JJ.call2 (q := (KX11_act, yX11_act, 11, 6, 0)) ok_X11_act_k2m4 (by decide +kernel) rfl (ρ := (fun v => match v with
    | 0 => a0
    | 1 => a1
    | 2 => a2
    | 3 => a3
    | 4 => a4
    | 5 => a5
    | 50 => gz h 161 0
    | _ => 0)) J (List.forall_mem_cons.mpr ⟨rfl, (fun e he => absurd he List.not_mem_nil)⟩) (by
      intro f hf
      have hf : f ∈ [(((-204) : Int), [((0 : Nat), (1 : Int))]), ((204 : Int), [((0 : Nat), ((-1) : Int))]), ((0 : Int), [((1 : Nat), (1 : Int))]), (((-1) : Int), [((1 : Nat), ((-1) : Int)), ((50 : Nat), (1 : Int))])] := hf
      simp only [List.mem_cons, List.not_mem_nil, or_false] at hf
      rcases hf with rfl | rfl | rfl | rfl <;> simp only [zv, zl] <;> omega)
  have e : (kA ct_X11_act_k2m4).map (fun q => (q.1, zv (fun v => match v with
    | 0 => a0
    | 1 => a1
    | 2 => a2
    | 3 => a3
    | 4 => a4
    | 5 => a5
    | 50 => gz h 161 0
    | _ => 0) q.2)) = [(2, ((4 : Nat) : Int)), (0, a0), (0, a1), (0, a2), (0, a3), (0, a4), (0, a5)] := by
    show [((2 : Nat), (4 : Int) + 0), (0, 0 + (1 * a0 + 0)), (0, 0 + (1 * a1 + 0)), (0, 0 + (1 * a2 + 0)), (0, 0 + (1 * a3 + 0)), (0, 0 + (1 * a4 + 0)), (0, 0 + (1 * a5 + 0))] = _
    simp only [show ∀ a : Int, (0 : Int) + (1 * a + 0) = a from fun a => by omega]
    rfl
  rw [e] at z
  refine MCal.mono ?_ z
  rintro ⟨o1, o2⟩ h' ⟨J', ρ', e1, e2, e3, e4, e5, e6, e7, e8, e9⟩
  have e2 : o1 = 1 ∧ o2 = (1, ρ' 200) := e2
  obtain ⟨rfl, rfl⟩ := e2
  exact ⟨rfl, rfl, J', e4⟩
set_option maxRecDepth 20000 in
theorem ap_X11_act_k3 {h : MH} (J : JJ zJ h) (a0 a1 a2 a3 a4 a5 : Int) (f0 : 0 ≤ -300 + 1 * a0) (f1 : 0 ≤ 399 - 1 * a0) : MCal KX11_act yX11_act 0 0 [(2, ((4 : Nat) : Int)), (0, a0), (0, a1), (0, a2), (0, a3), (0, a4), (0, a5)] h (mRL (fun _ h2 => JJ zJ h2 ∧ Frm (kMd ct_X11_act_k3) h h2)) := by
  have z := JJ.call2 (q := (KX11_act, yX11_act, 11, 6, 0)) ok_X11_act_k3 (by decide +kernel) rfl (ρ := (fun v => match v with
    | 0 => a0
    | 1 => a1
    | 2 => a2
    | 3 => a3
    | 4 => a4
    | 5 => a5
    | _ => 0)) J (fun e he => absurd he List.not_mem_nil) (by
      intro f hf
      have hf : f ∈ [(((-300) : Int), [((0 : Nat), (1 : Int))]), ((399 : Int), [((0 : Nat), ((-1) : Int))])] := hf
      simp only [List.mem_cons, List.not_mem_nil, or_false] at hf
      rcases hf with rfl | rfl <;> simp only [zv, zl] <;> omega)
  have e : (kA ct_X11_act_k3).map (fun q => (q.1, zv (fun v => match v with
    | 0 => a0
    | 1 => a1
    | 2 => a2
    | 3 => a3
    | 4 => a4
    | 5 => a5
    | _ => 0) q.2)) = [(2, ((4 : Nat) : Int)), (0, a0), (0, a1), (0, a2), (0, a3), (0, a4), (0, a5)] := by
    show [((2 : Nat), (4 : Int) + 0), (0, 0 + (1 * a0 + 0)), (0, 0 + (1 * a1 + 0)), (0, 0 + (1 * a2 + 0)), (0, 0 + (1 * a3 + 0)), (0, 0 + (1 * a4 + 0)), (0, 0 + (1 * a5 + 0))] = _
    simp only [show ∀ a : Int, (0 : Int) + (1 * a + 0) = a from fun a => by omega]
    rfl
  rw [e] at z
  refine MCal.mono ?_ z
  rintro ⟨o1, o2⟩ h' ⟨J', ρ', e1, e2, e3, e4, e5, e6, e7, e8, e9⟩
  have e2 : o1 = 1 ∧ o2 = (1, ρ' 200) := e2
  obtain ⟨rfl, rfl⟩ := e2
  exact ⟨rfl, rfl, J', e4⟩
set_option maxRecDepth 20000 in
theorem ap_X11_act_k4hi {h : MH} (J : JJ zJ h) (a0 a1 a2 a3 a4 a5 : Int) (f0 : 0 ≤ -407 + 1 * a0) (f1 : 0 ≤ 499 - 1 * a0) : MCal KX11_act yX11_act 0 0 [(2, ((4 : Nat) : Int)), (0, a0), (0, a1), (0, a2), (0, a3), (0, a4), (0, a5)] h (mRL (fun _ h2 => JJ zJ h2 ∧ Frm (kMd ct_X11_act_k4hi) h h2)) := by
  have z := JJ.call2 (q := (KX11_act, yX11_act, 11, 6, 0)) ok_X11_act_k4hi (by decide +kernel) rfl (ρ := (fun v => match v with
    | 0 => a0
    | 1 => a1
    | 2 => a2
    | 3 => a3
    | 4 => a4
    | 5 => a5
    | _ => 0)) J (fun e he => absurd he List.not_mem_nil) (by
      intro f hf
      have hf : f ∈ [(((-407) : Int), [((0 : Nat), (1 : Int))]), ((499 : Int), [((0 : Nat), ((-1) : Int))])] := hf
      simp only [List.mem_cons, List.not_mem_nil, or_false] at hf
      rcases hf with rfl | rfl <;> simp only [zv, zl] <;> omega)
  have e : (kA ct_X11_act_k4hi).map (fun q => (q.1, zv (fun v => match v with
    | 0 => a0
    | 1 => a1
    | 2 => a2
    | 3 => a3
    | 4 => a4
    | 5 => a5
    | _ => 0) q.2)) = [(2, ((4 : Nat) : Int)), (0, a0), (0, a1), (0, a2), (0, a3), (0, a4), (0, a5)] := by
    show [((2 : Nat), (4 : Int) + 0), (0, 0 + (1 * a0 + 0)), (0, 0 + (1 * a1 + 0)), (0, 0 + (1 * a2 + 0)), (0, 0 + (1 * a3 + 0)), (0, 0 + (1 * a4 + 0)), (0, 0 + (1 * a5 + 0))] = _
    simp only [show ∀ a : Int, (0 : Int) + (1 * a + 0) = a from fun a => by omega]
    rfl
  rw [e] at z
  refine MCal.mono ?_ z
  rintro ⟨o1, o2⟩ h' ⟨J', ρ', e1, e2, e3, e4, e5, e6, e7, e8, e9⟩
  have e2 : o1 = 1 ∧ o2 = (1, ρ' 200) := e2
  obtain ⟨rfl, rfl⟩ := e2
  exact ⟨rfl, rfl, J', e4⟩
set_option maxRecDepth 20000 in
theorem ap_X11_act_k4lo {h : MH} (J : JJ zJ h) (a0 a1 a2 a3 a4 a5 : Int) (f0 : 0 ≤ -400 + 1 * a0) (f1 : 0 ≤ 405 - 1 * a0) : MCal KX11_act yX11_act 0 0 [(2, ((4 : Nat) : Int)), (0, a0), (0, a1), (0, a2), (0, a3), (0, a4), (0, a5)] h (mRL (fun _ h2 => JJ zJ h2 ∧ Frm (kMd ct_X11_act_k4lo) h h2)) := by
  have z := JJ.call2 (q := (KX11_act, yX11_act, 11, 6, 0)) ok_X11_act_k4lo (by decide +kernel) rfl (ρ := (fun v => match v with
    | 0 => a0
    | 1 => a1
    | 2 => a2
    | 3 => a3
    | 4 => a4
    | 5 => a5
    | _ => 0)) J (fun e he => absurd he List.not_mem_nil) (by
      intro f hf
      have hf : f ∈ [(((-400) : Int), [((0 : Nat), (1 : Int))]), ((405 : Int), [((0 : Nat), ((-1) : Int))])] := hf
      simp only [List.mem_cons, List.not_mem_nil, or_false] at hf
      rcases hf with rfl | rfl <;> simp only [zv, zl] <;> omega)
  have e : (kA ct_X11_act_k4lo).map (fun q => (q.1, zv (fun v => match v with
    | 0 => a0
    | 1 => a1
    | 2 => a2
    | 3 => a3
    | 4 => a4
    | 5 => a5
    | _ => 0) q.2)) = [(2, ((4 : Nat) : Int)), (0, a0), (0, a1), (0, a2), (0, a3), (0, a4), (0, a5)] := by
    show [((2 : Nat), (4 : Int) + 0), (0, 0 + (1 * a0 + 0)), (0, 0 + (1 * a1 + 0)), (0, 0 + (1 * a2 + 0)), (0, 0 + (1 * a3 + 0)), (0, 0 + (1 * a4 + 0)), (0, 0 + (1 * a5 + 0))] = _
    simp only [show ∀ a : Int, (0 : Int) + (1 * a + 0) = a from fun a => by omega]
    rfl
  rw [e] at z
  refine MCal.mono ?_ z
  rintro ⟨o1, o2⟩ h' ⟨J', ρ', e1, e2, e3, e4, e5, e6, e7, e8, e9⟩
  have e2 : o1 = 1 ∧ o2 = (1, ρ' 200) := e2
  obtain ⟨rfl, rfl⟩ := e2
  exact ⟨rfl, rfl, J', e4⟩
set_option maxRecDepth 20000 in
theorem ap_X11_act_k4x {h : MH} (J : JJ zJ h) (a0 a1 a2 a3 a4 a5 : Int) (f0 : 0 ≤ -406 + 1 * a0) (f1 : 0 ≤ 406 - 1 * a0) : MCal KX11_act yX11_act 0 0 [(2, ((4 : Nat) : Int)), (0, a0), (0, a1), (0, a2), (0, a3), (0, a4), (0, a5)] h (mRL (fun _ h2 => JJ zJ h2 ∧ Frm (kMd ct_X11_act_k4x) h h2)) := by
  have z := JJ.call2 (q := (KX11_act, yX11_act, 11, 6, 0)) ok_X11_act_k4x (by decide +kernel) rfl (ρ := (fun v => match v with
    | 0 => a0
    | 1 => a1
    | 2 => a2
    | 3 => a3
    | 4 => a4
    | 5 => a5
    | _ => 0)) J (fun e he => absurd he List.not_mem_nil) (by
      intro f hf
      have hf : f ∈ [(((-406) : Int), [((0 : Nat), (1 : Int))]), ((406 : Int), [((0 : Nat), ((-1) : Int))])] := hf
      simp only [List.mem_cons, List.not_mem_nil, or_false] at hf
      rcases hf with rfl | rfl <;> simp only [zv, zl] <;> omega)
  have e : (kA ct_X11_act_k4x).map (fun q => (q.1, zv (fun v => match v with
    | 0 => a0
    | 1 => a1
    | 2 => a2
    | 3 => a3
    | 4 => a4
    | 5 => a5
    | _ => 0) q.2)) = [(2, ((4 : Nat) : Int)), (0, a0), (0, a1), (0, a2), (0, a3), (0, a4), (0, a5)] := by
    show [((2 : Nat), (4 : Int) + 0), (0, 0 + (1 * a0 + 0)), (0, 0 + (1 * a1 + 0)), (0, 0 + (1 * a2 + 0)), (0, 0 + (1 * a3 + 0)), (0, 0 + (1 * a4 + 0)), (0, 0 + (1 * a5 + 0))] = _
    simp only [show ∀ a : Int, (0 : Int) + (1 * a + 0) = a from fun a => by omega]
    rfl
  rw [e] at z
  refine MCal.mono ?_ z
  rintro ⟨o1, o2⟩ h' ⟨J', ρ', e1, e2, e3, e4, e5, e6, e7, e8, e9⟩
  have e2 : o1 = 1 ∧ o2 = (1, ρ' 200) := e2
  obtain ⟨rfl, rfl⟩ := e2
  exact ⟨rfl, rfl, J', e4⟩
set_option maxRecDepth 20000 in
theorem ap_X11_act_k5hi {h : MH} (J : JJ zJ h) (a0 a1 a2 a3 a4 a5 : Int) (f0 : 0 ≤ -504 + 1 * a0) (f1 : 0 ≤ 599 - 1 * a0) : MCal KX11_act yX11_act 0 0 [(2, ((4 : Nat) : Int)), (0, a0), (0, a1), (0, a2), (0, a3), (0, a4), (0, a5)] h (mRL (fun _ h2 => JJ zJ h2 ∧ Frm (kMd ct_X11_act_k5hi) h h2)) := by
  have z := JJ.call2 (q := (KX11_act, yX11_act, 11, 6, 0)) ok_X11_act_k5hi (by decide +kernel) rfl (ρ := (fun v => match v with
    | 0 => a0
    | 1 => a1
    | 2 => a2
    | 3 => a3
    | 4 => a4
    | 5 => a5
    | _ => 0)) J (fun e he => absurd he List.not_mem_nil) (by
      intro f hf
      have hf : f ∈ [(((-504) : Int), [((0 : Nat), (1 : Int))]), ((599 : Int), [((0 : Nat), ((-1) : Int))])] := hf
      simp only [List.mem_cons, List.not_mem_nil, or_false] at hf
      rcases hf with rfl | rfl <;> simp only [zv, zl] <;> omega)
  have e : (kA ct_X11_act_k5hi).map (fun q => (q.1, zv (fun v => match v with
    | 0 => a0
    | 1 => a1
    | 2 => a2
    | 3 => a3
    | 4 => a4
    | 5 => a5
    | _ => 0) q.2)) = [(2, ((4 : Nat) : Int)), (0, a0), (0, a1), (0, a2), (0, a3), (0, a4), (0, a5)] := by
    show [((2 : Nat), (4 : Int) + 0), (0, 0 + (1 * a0 + 0)), (0, 0 + (1 * a1 + 0)), (0, 0 + (1 * a2 + 0)), (0, 0 + (1 * a3 + 0)), (0, 0 + (1 * a4 + 0)), (0, 0 + (1 * a5 + 0))] = _
    simp only [show ∀ a : Int, (0 : Int) + (1 * a + 0) = a from fun a => by omega]
    rfl
  rw [e] at z
  refine MCal.mono ?_ z
  rintro ⟨o1, o2⟩ h' ⟨J', ρ', e1, e2, e3, e4, e5, e6, e7, e8, e9⟩
  have e2 : o1 = 1 ∧ o2 = (1, ρ' 200) := e2
  obtain ⟨rfl, rfl⟩ := e2
  exact ⟨rfl, rfl, J', e4⟩
