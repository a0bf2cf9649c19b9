/-! the contracts of the calls that the law makes -/
set_option maxRecDepth 20000 in
theorem ap_X11_earth {h : MH} (J : JJ zJ h) (a0 a1 : Int) : MCal KX11_earth yX11_earth 0 0 [(2, ((4 : Nat) : Int)), (0, a0), (0, a1)] h (mRI (fun _ h2 => JJ zJ h2 ∧ Frm (kMd ct_X11_earth) h h2)) := by
  have z := JJ.call2 (q := (KX11_earth, yX11_earth, 11, 2, 0)) ok_X11_earth (by decide +kernel) rfl (ρ := (fun v => match v with
    | 0 => a0
    | 1 => a1
    | 50 => gz h 5 14
    | _ => 0)) J (List.forall_mem_cons.mpr ⟨rfl, (fun e he => absurd he List.not_mem_nil)⟩) (by
      exact fun f hf => absurd hf List.not_mem_nil)
  have e : (kA ct_X11_earth).map (fun q => (q.1, zv (fun v => match v with
    | 0 => a0
    | 1 => a1
    | 50 => gz h 5 14
    | _ => 0) q.2)) = [(2, ((4 : Nat) : Int)), (0, a0), (0, a1)] := by
    show [((2 : Nat), (4 : Int) + 0), (0, 0 + (1 * a0 + 0)), (0, 0 + (1 * a1 + 0))] = _
    simp only [show ∀ a : Int, (0 : Int) + (1 * a + 0) = a from fun a => by omega]
    rfl
  rw [e] at z
  refine MCal.mono ?_ z
  rintro ⟨o1, o2⟩ h' ⟨J', ρ', e1, e2, e3, e4, e5, e6, e7, e8, e9⟩
  have e2 : o1 = 1 ∧ o2 = (0, ρ' 200) := e2
  obtain ⟨rfl, rfl⟩ := e2
  exact ⟨rfl, rfl, J', e4⟩
set_option maxRecDepth 20000 in
theorem ap_X20_earth {h : MH} (J : JJ zJ h) (a0 a1 : Int) : MCal KX20_earth yX20_earth 0 0 [(2, ((2448 : Nat) : Int)), (0, a0), (0, a1)] h (mRI (fun _ h2 => JJ zJ h2 ∧ Frm (kMd ct_X20_earth) h h2)) := by
  have z := JJ.call2 (q := (KX20_earth, yX20_earth, 20, 2, 0)) ok_X20_earth (by decide +kernel) rfl (ρ := (fun v => match v with
    | 0 => a0
    | 1 => a1
    | _ => 0)) J (fun e he => absurd he List.not_mem_nil) (by
      exact fun f hf => absurd hf List.not_mem_nil)
  have e : (kA ct_X20_earth).map (fun q => (q.1, zv (fun v => match v with
    | 0 => a0
    | 1 => a1
    | _ => 0) q.2)) = [(2, ((2448 : Nat) : Int)), (0, a0), (0, a1)] := by
    show [((2 : Nat), (2448 : Int) + 0), (0, 0 + (1 * a0 + 0)), (0, 0 + (1 * a1 + 0))] = _
    simp only [show ∀ a : Int, (0 : Int) + (1 * a + 0) = a from fun a => by omega]
    rfl
  rw [e] at z
  refine MCal.mono ?_ z
  rintro ⟨o1, o2⟩ h' ⟨J', ρ', e1, e2, e3, e4, e5, e6, e7, e8, e9⟩
  have e2 : o1 = 1 ∧ o2 = (0, ρ' 200) := e2
  obtain ⟨rfl, rfl⟩ := e2
  exact ⟨rfl, rfl, J', e4⟩
set_option maxRecDepth 20000 in
theorem ap_X11_bridge {h : MH} (J : JJ zJ h) (a0 a1 : Int) : MCal KX11_bridge yX11_bridge 0 0 [(2, ((4 : Nat) : Int)), (0, a0), (0, a1)] h (mRI (fun _ h2 => JJ zJ h2 ∧ Frm (kMd ct_X11_bridge) h h2)) := by
  have z := JJ.call2 (q := (KX11_bridge, yX11_bridge, 11, 2, 0)) ok_X11_bridge (by decide +kernel) rfl (ρ := (fun v => match v with
    | 0 => a0
    | 1 => a1
    | 50 => gz h 5 14
    | _ => 0)) J (List.forall_mem_cons.mpr ⟨rfl, (fun e he => absurd he List.not_mem_nil)⟩) (by
      exact fun f hf => absurd hf List.not_mem_nil)
  have e : (kA ct_X11_bridge).map (fun q => (q.1, zv (fun v => match v with
    | 0 => a0
    | 1 => a1
    | 50 => gz h 5 14
    | _ => 0) q.2)) = [(2, ((4 : Nat) : Int)), (0, a0), (0, a1)] := by
    show [((2 : Nat), (4 : Int) + 0), (0, 0 + (1 * a0 + 0)), (0, 0 + (1 * a1 + 0))] = _
    simp only [show ∀ a : Int, (0 : Int) + (1 * a + 0) = a from fun a => by omega]
    rfl
  rw [e] at z
  refine MCal.mono ?_ z
  rintro ⟨o1, o2⟩ h' ⟨J', ρ', e1, e2, e3, e4, e5, e6, e7, e8, e9⟩
  have e2 : o1 = 1 ∧ o2 = (0, ρ' 200) := e2
  obtain ⟨rfl, rfl⟩ := e2
  exact ⟨rfl, rfl, J', e4⟩
set_option maxRecDepth 20000 in
theorem ap_X20_bridge {h : MH} (J : JJ zJ h) (a0 a1 : Int) : MCal KX20_bridge yX20_bridge 0 0 [(2, ((2448 : Nat) : Int)), (0, a0), (0, a1)] h (mRI (fun _ h2 => JJ zJ h2 ∧ Frm (kMd ct_X20_bridge) h h2)) := by
  have z := JJ.call2 (q := (KX20_bridge, yX20_bridge, 20, 2, 0)) ok_X20_bridge (by decide +kernel) rfl (ρ := (fun v => match v with
    | 0 => a0
    | 1 => a1
    | _ => 0)) J (fun e he => absurd he List.not_mem_nil) (by
      exact fun f hf => absurd hf List.not_mem_nil)
  have e : (kA ct_X20_bridge).map (fun q => (q.1, zv (fun v => match v with
    | 0 => a0
    | 1 => a1
    | _ => 0) q.2)) = [(2, ((2448 : Nat) : Int)), (0, a0), (0, a1)] := by
    show [((2 : Nat), (2448 : Int) + 0), (0, 0 + (1 * a0 + 0)), (0, 0 + (1 * a1 + 0))] = _
    simp only [show ∀ a : Int, (0 : Int) + (1 * a + 0) = a from fun a => by omega]
    rfl
  rw [e] at z
  refine MCal.mono ?_ z
  rintro ⟨o1, o2⟩ h' ⟨J', ρ', e1, e2, e3, e4, e5, e6, e7, e8, e9⟩
  have e2 : o1 = 1 ∧ o2 = (0, ρ' 200) := e2
  obtain ⟨rfl, rfl⟩ := e2
  exact ⟨rfl, rfl, J', e4⟩
set_option maxRecDepth 20000 in
theorem ap_X11_rowOf {h : MH} (J : JJ zJ h) (a0 : Int) : MCal KX11_rowOf yX11_rowOf 1 13 [(2, ((4 : Nat) : Int)), (0, a0)] h (mRI (fun _ h2 => JJ zJ h2 ∧ Frm (kMd ct_X11_rowOf) h h2)) := by
  have z := JJ.call2 (q := (KX11_rowOf, yX11_rowOf, 11, 1, 0)) ok_X11_rowOf (by decide +kernel) rfl (ρ := (fun v => match v with
    | 0 => a0
    | _ => 0)) J (fun e he => absurd he List.not_mem_nil) (by
      exact fun f hf => absurd hf List.not_mem_nil)
  have e : (kA ct_X11_rowOf).map (fun q => (q.1, zv (fun v => match v with
    | 0 => a0
    | _ => 0) q.2)) = [(2, ((4 : Nat) : Int)), (0, a0)] := by
    show [((2 : Nat), (4 : Int) + 0), (0, 0 + (1 * a0 + 0))] = _
    simp only [show ∀ a : Int, (0 : Int) + (1 * a + 0) = a from fun a => by omega]
    rfl
  rw [e] at z
  refine MCal.mono ?_ z
  rintro ⟨o1, o2⟩ h' ⟨J', ρ', e1, e2, e3, e4, e5, e6, e7, e8, e9⟩
  have e2 : o1 = 1 ∧ o2 = (0, ρ' 200) := e2
  obtain ⟨rfl, rfl⟩ := e2
  exact ⟨rfl, rfl, J', e4⟩
set_option maxRecDepth 20000 in
theorem ap_X20_rowOf {h : MH} (J : JJ zJ h) (a0 : Int) : MCal KX20_rowOf yX20_rowOf 0 0 [(2, ((2448 : Nat) : Int)), (0, a0)] h (mRI (fun _ h2 => JJ zJ h2 ∧ Frm (kMd ct_X20_rowOf) h h2)) := by
  have z := JJ.call2 (q := (KX20_rowOf, yX20_rowOf, 20, 1, 0)) ok_X20_rowOf (by decide +kernel) rfl (ρ := (fun v => match v with
    | 0 => a0
    | _ => 0)) J (fun e he => absurd he List.not_mem_nil) (by
      exact fun f hf => absurd hf List.not_mem_nil)
  have e : (kA ct_X20_rowOf).map (fun q => (q.1, zv (fun v => match v with
    | 0 => a0
    | _ => 0) q.2)) = [(2, ((2448 : Nat) : Int)), (0, a0)] := by
    show [((2 : Nat), (2448 : Int) + 0), (0, 0 + (1 * a0 + 0))] = _
    simp only [show ∀ a : Int, (0 : Int) + (1 * a + 0) = a from fun a => by omega]
    rfl
  rw [e] at z
  refine MCal.mono ?_ z
  rintro ⟨o1, o2⟩ h' ⟨J', ρ', e1, e2, e3, e4, e5, e6, e7, e8, e9⟩
  have e2 : o1 = 1 ∧ o2 = (0, ρ' 200) := e2
  obtain ⟨rfl, rfl⟩ := e2
  exact ⟨rfl, rfl, J', e4⟩
set_option maxRecDepth 20000 in
theorem ap_X11_pass {h : MH} (J : JJ zJ h) (a0 : Int) : MCal KX11_pass yX11_pass 0 0 [(2, ((4 : Nat) : Int)), (0, a0)] h (mRI (fun _ h2 => JJ zJ h2 ∧ Frm (kMd ct_X11_pass) h h2)) := by
  have z := JJ.call2 (q := (KX11_pass, yX11_pass, 11, 1, 0)) ok_X11_pass (by decide +kernel) rfl (ρ := (fun v => match v with
    | 0 => a0
    | _ => 0)) J (fun e he => absurd he List.not_mem_nil) (by
      exact fun f hf => absurd hf List.not_mem_nil)
  have e : (kA ct_X11_pass).map (fun q => (q.1, zv (fun v => match v with
    | 0 => a0
    | _ => 0) q.2)) = [(2, ((4 : Nat) : Int)), (0, a0)] := by
    show [((2 : Nat), (4 : Int) + 0), (0, 0 + (1 * a0 + 0))] = _
    simp only [show ∀ a : Int, (0 : Int) + (1 * a + 0) = a from fun a => by omega]
    rfl
  rw [e] at z
  refine MCal.mono ?_ z
  rintro ⟨o1, o2⟩ h' ⟨J', ρ', e1, e2, e3, e4, e5, e6, e7, e8, e9⟩
  have e2 : o1 = 1 ∧ o2 = (0, ρ' 200) := e2
  obtain ⟨rfl, rfl⟩ := e2
  exact ⟨rfl, rfl, J', e4⟩
set_option maxRecDepth 20000 in
theorem ap_X20_pass {h : MH} (J : JJ zJ h) (a0 : Int) : MCal KX20_pass yX20_pass 0 0 [(2, ((2448 : Nat) : Int)), (0, a0)] h (mRI (fun _ h2 => JJ zJ h2 ∧ Frm (kMd ct_X20_pass) h h2)) := by
  have z := JJ.call2 (q := (KX20_pass, yX20_pass, 20, 1, 0)) ok_X20_pass (by decide +kernel) rfl (ρ := (fun v => match v with
    | 0 => a0
    | _ => 0)) J (fun e he => absurd he List.not_mem_nil) (by
      exact fun f hf => absurd hf List.not_mem_nil)
  have e : (kA ct_X20_pass).map (fun q => (q.1, zv (fun v => match v with
    | 0 => a0
    | _ => 0) q.2)) = [(2, ((2448 : Nat) : Int)), (0, a0)] := by
    show [((2 : Nat), (2448 : Int) + 0), (0, 0 + (1 * a0 + 0))] = _
    simp only [show ∀ a : Int, (0 : Int) + (1 * a + 0) = a from fun a => by omega]
    rfl
  rw [e] at z
  refine MCal.mono ?_ z
  rintro ⟨o1, o2⟩ h' ⟨J', ρ', e1, e2, e3, e4, e5, e6, e7, e8, e9⟩
  have e2 : o1 = 1 ∧ o2 = (0, ρ' 200) := e2
  obtain ⟨rfl, rfl⟩ := e2
  exact ⟨rfl, rfl, J', e4⟩
set_option maxRecDepth 20000 in
theorem ap_X11_drive {h : MH} (J : JJ zJ h) (a0 : Int) : MCal KX11_drive yX11_drive 0 0 [(2, ((4 : Nat) : Int)), (0, a0)] h (mRI (fun _ h2 => JJ zJ h2 ∧ Frm (kMd ct_X11_drive) h h2)) := by
  have z := JJ.call2 (q := (KX11_drive, yX11_drive, 11, 1, 0)) ok_X11_drive (by decide +kernel) rfl (ρ := (fun v => match v with
    | 0 => a0
    | _ => 0)) J (fun e he => absurd he List.not_mem_nil) (by
      exact fun f hf => absurd hf List.not_mem_nil)
  have e : (kA ct_X11_drive).map (fun q => (q.1, zv (fun v => match v with
    | 0 => a0
    | _ => 0) q.2)) = [(2, ((4 : Nat) : Int)), (0, a0)] := by
    show [((2 : Nat), (4 : Int) + 0), (0, 0 + (1 * a0 + 0))] = _
    simp only [show ∀ a : Int, (0 : Int) + (1 * a + 0) = a from fun a => by omega]
    rfl
  rw [e] at z
  refine MCal.mono ?_ z
  rintro ⟨o1, o2⟩ h' ⟨J', ρ', e1, e2, e3, e4, e5, e6, e7, e8, e9⟩
  have e2 : o1 = 1 ∧ o2 = (0, ρ' 200) := e2
  obtain ⟨rfl, rfl⟩ := e2
  exact ⟨rfl, rfl, J', e4⟩
