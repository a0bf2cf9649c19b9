/-! the contracts of the calls that the law makes -/
set_option maxRecDepth 20000 in
theorem ap_X11_earth {h : MH} (J : JJ zJ h) (a0 a1 : Int) : MCal KX11_earth yX11_earth 0 0 [(2, ((4 : Nat) : Int)), (0, a0), (0, a1)] h (mRI (fun _ h2 => JJ zJ h2 ∧ Frm (kMd ct_X11_earth) h h2)) := by
  have z := JJ.call (q := (KX11_earth, yX11_earth, 11, 2, 0)) ok_X11_earth (by decide +kernel) rfl (ρ := (fun v => match v with
    | 0 => a0
    | 1 => a1
    | 50 => gz h 5 14
    | _ => 0)) J (List.forall_mem_cons.mpr ⟨rfl, (fun e he => absurd he List.not_mem_nil)⟩) (by
      exact fun f hf => absurd hf List.not_mem_nil)
  have e : (kA ct_X11_earth).map (fun q => (q.1, zv (fun v => match v with
    | 0 => a0
    | 1 => a1
    | 50 => gz h 5 14
    | _ => 0) q.2)) = [(2, ((4 : Nat) : Int)), (0, a0), (0, a1)] := by
    show [((2 : Nat), (4 : Int) + 0), (0, 0 + (1 * a0 + 0)), (0, 0 + (1 * a1 + 0))] = _
    simp only [show ∀ a : Int, (0 : Int) + (1 * a + 0) = a from fun a => by omega]
    rfl
  rw [e] at z
  refine MCal.mono ?_ z
  rintro ⟨o1, o2⟩ h' ⟨J', ρ', e1, e2, e3, e4, e5, e6, e7, e8, e9⟩
  have e2 : o1 = 1 ∧ o2 = (0, ρ' 200) := e2
  obtain ⟨rfl, rfl⟩ := e2
  exact ⟨rfl, rfl, J', e4⟩
set_option maxRecDepth 20000 in
theorem ap_X20_earth {h : MH} (J : JJ zJ h) (a0 a1 : Int) : MCal KX20_earth yX20_earth 0 0 [(2, ((2448 : Nat) : Int)), (0, a0), (0, a1)] h (mRI (fun _ h2 => JJ zJ h2 ∧ Frm (kMd ct_X20_earth) h h2)) := by
  have z := JJ.call (q := (KX20_earth, yX20_earth, 20, 2, 0)) ok_X20_earth (by decide +kernel) rfl (ρ := (fun v => match v with
    | 0 => a0
    | 1 => a1
    | _ => 0)) J (fun e he => absurd he List.not_mem_nil) (by
      exact fun f hf => absurd hf List.not_mem_nil)
  have e : (kA ct_X20_earth).map (fun q => (q.1, zv (fun v => match v with
    | 0 => a0
    | 1 => a1
    | _ => 0) q.2)) = [(2, ((2448 : Nat) : Int)), (0, a0), (0, a1)] := by
    show [((2 : Nat), (2448 : Int) + 0), (0, 0 + (1 * a0 + 0)), (0, 0 + (1 * a1 + 0))] = _
    simp only [show ∀ a : Int, (0 : Int) + (1 * a + 0) = a from fun a => by omega]
    rfl
  rw [e] at z
  refine MCal.mono ?_ z
  rintro ⟨o1, o2⟩ h' ⟨J', ρ', e1, e2, e3, e4, e5, e6, e7, e8, e9⟩
  have e2 : o1 = 1 ∧ o2 = (0, ρ' 200) := e2
  obtain ⟨rfl, rfl⟩ := e2
  exact ⟨rfl, rfl, J', e4⟩
set_option maxRecDepth 20000 in
theorem ap_X11_bridge {h : MH} (J : JJ zJ h) (a0 a1 : Int) : MCal KX11_bridge yX11_bridge 0 0 [(2, ((4 : Nat) : Int)), (0, a0), (0, a1)] h (mRI (fun _ h2 => JJ zJ h2 ∧ Frm (kMd ct_X11_bridge) h h2)) := by
  have z := JJ.call (q := (KX11_bridge, yX11_bridge, 11, 2, 0)) ok_X11_bridge (by decide +kernel) rfl (ρ := (fun v => match v with
    | 0 => a0
    | 1 => a1
    | 50 => gz h 5 14
    | _ => 0)) J (List.forall_mem_cons.mpr ⟨rfl, (fun e he => absurd he List.not_mem_nil)⟩) (by
      exact fun f hf => absurd hf List.not_mem_nil)
  have e : (kA ct_X11_bridge).map (fun q => (q.1, zv (fun v => match v with
    | 0 => a0
    | 1 => a1
    | 50 => gz h 5 14
    | _ => 0) q.2)) = [(2, ((4 : Nat) : Int)), (0, a0), (0, a1)] := by
    show [((2 : Nat), (4 : Int) + 0), (0, 0 + (1 * a0 + 0)), (0, 0 + (1 * a1 + 0))] = _
    simp only [show ∀ a : Int, (0 : Int) + (1 * a + 0) = a from fun a => by omega]
    rfl
  rw [e] at z
  refine MCal.mono ?_ z
  rintro ⟨o1, o2⟩ h' ⟨J', ρ', e1, e2, e3, e4, e5, e6, e7, e8, e9⟩
  have e2 : o1 = 1 ∧ o2 = (0, ρ' 200) := e2
  obtain ⟨rfl, rfl⟩ := e2
  exact ⟨rfl, rfl, J', e4⟩
set_option maxRecDepth 20000 in
theorem ap_X20_bridge {h : MH} (J : JJ zJ h) (a0 a1 : Int) : MCal KX20_bridge yX20_bridge 0 0 [(2, ((2448 : Nat) : Int)), (0, a0), (0, a1)] h (mRI (fun _ h2 => JJ zJ h2 ∧ Frm (kMd ct_X20_bridge) h h2)) := by
  have z := JJ.call (q := (KX20_bridge, yX20_bridge, 20, 2, 0)) ok_X20_bridge (by decide +kernel) rfl (ρ := (fun v => match v with
    | 0 => a0
    | 1 => a1
    | _ => 0)) J (fun e he => absurd he List.not_mem_nil) (by
      exact fun f hf => absurd hf List.not_mem_nil)
  have e : (kA ct_X20_bridge).map (fun q => (q.1, zv (fun v => match v with
    | 0 => a0
    | 1 => a1
    | _ => 0) q.2)) = [(2, ((2448 : Nat) : Int)), (0, a0), (0, a1)] := by
    show [((2 : Nat), (2448 : Int) + 0), (0, 0 + (1 * a0 + 0)), (0, 0 + (1 * a1 + 0))] = _
    simp only [show ∀ a : Int, (0 : Int) + (1 * a + 0) = a from fun a => by omega]
    rfl
  rw [e] at z
  refine MCal.mono ?_ z
  rintro ⟨o1, o2⟩ h' ⟨J', ρ', e1, e2, e3, e4, e5, e6, e7, e8, e9⟩
  have e2 : o1 = 1 ∧ o2 = (0, ρ' 200) := e2
  obtain ⟨rfl, rfl⟩ := e2
  exact ⟨rfl, rfl, J', e4⟩
set_option maxRecDepth 20000 in
theorem ap_X11_rowOf {h : MH} (J : JJ zJ h) (a0 : Int) : MCal KX11_rowOf yX11_rowOf 1 13 [(2, ((4 : Nat) : Int)), (0, a0)] h (mRI (fun _ h2 => JJ zJ h2 ∧ Frm (kMd ct_X11_rowOf) h h2)) := by
  have z := JJ.call (q := (KX11_rowOf, yX11_rowOf, 11, 1, 0)) ok_X11_rowOf (by decide +kernel) rfl (ρ := (fun v => match v with
    | 0 => a0
    | _ => 0)) J (fun e he => absurd he List.not_mem_nil) (by
      exact fun f hf => absurd hf List.not_mem_nil)
  have e : (kA ct_X11_rowOf).map (fun q => (q.1, zv (fun v => match v with
    | 0 => a0
    | _ => 0) q.2)) = [(2, ((4 : Nat) : Int)), (0, a0)] := by
    show [((2 : Nat), (4 : Int) + 0), (0, 0 + (1 * a0 + 0))] = _
    simp only [show ∀ a : Int, (0 : Int) + (1 * a + 0) = a from fun a => by omega]
    rfl
  rw [e] at z
  refine MCal.mono ?_ z
  rintro ⟨o1, o2⟩ h' ⟨J', ρ', e1, e2, e3, e4, e5, e6, e7, e8, e9⟩
  have e2 : o1 = 1 ∧ o2 = (0, ρ' 200) := e2
  obtain ⟨rfl, rfl⟩ := e2
  exact ⟨rfl, rfl, J', e4⟩
set_option maxRecDepth 20000 in
theorem ap_X20_rowOf {h : MH} (J : JJ zJ h) (a0 : Int) : MCal KX20_rowOf yX20_rowOf 0 0 [(2, ((2448 : Nat) : Int)), (0, a0)] h (mRI (fun _ h2 => JJ zJ h2 ∧ Frm (kMd ct_X20_rowOf) h h2)) := by
  have z := JJ.call (q := (KX20_rowOf, yX20_rowOf, 20, 1, 0)) ok_X20_rowOf (by decide +kernel) rfl (ρ := (fun v => match v with
    | 0 => a0
    | _ => 0)) J (fun e he => absurd he List.not_mem_nil) (by
      exact fun f hf => absurd hf List.not_mem_nil)
  have e : (kA ct_X20_rowOf).map (fun q => (q.1, zv (fun v => match v with
    | 0 => a0
    | _ => 0) q.2)) = [(2, ((2448 : Nat) : Int)), (0, a0)] := by
    show [((2 : Nat), (2448 : Int) + 0), (0, 0 + (1 * a0 + 0))] = _
    simp only [show ∀ a : Int, (0 : Int) + (1 * a + 0) = a from fun a => by omega]
    rfl
  rw [e] at z
  refine MCal.mono ?_ z
  rintro ⟨o1, o2⟩ h' ⟨J', ρ', e1, e2, e3, e4, e5, e6, e7, e8, e9⟩
  have e2 : o1 = 1 ∧ o2 = (0, ρ' 200) := e2
  obtain ⟨rfl, rfl⟩ := e2
  exact ⟨rfl, rfl, J', e4⟩
set_option maxRecDepth 20000 in
theorem ap_X11_pass {h : MH} (J : JJ zJ h) (a0 : Int) : MCal KX11_pass yX11_pass 0 0 [(2, ((4 : Nat) : Int)), (0, a0)] h (mRI (fun _ h2 => JJ zJ h2 ∧ Frm (kMd ct_X11_pass) h h2)) := by
  have z := JJ.call (q := (KX11_pass, yX11_pass, 11, 1, 0)) ok_X11_pass (by decide +kernel) rfl (ρ := (fun v => match v with
    | 0 => a0
    | _ => 0)) J (fun e he => absurd he List.not_mem_nil) (by
      exact fun f hf => absurd hf List.not_mem_nil)
  have e : (kA ct_X11_pass).map (fun q => (q.1, zv (fun v => match v with
    | 0 => a0
    | _ => 0) q.2)) = [(2, ((4 : Nat) : Int)), (0, a0)] := by
    show [((2 : Nat), (4 : Int) + 0), (0, 0 + (1 * a0 + 0))] = _
    simp only [show ∀ a : Int, (0 : Int) + (1 * a + 0) = a from fun a => by omega]
    rfl
  rw [e] at z
  refine MCal.mono ?_ z
  rintro ⟨o1, o2⟩ h' ⟨J', ρ', e1, e2, e3, e4, e5, e6, e7, e8, e9⟩
  have e2 : o1 = 1 ∧ o2 = (0, ρ' 200) := e2
  obtain ⟨rfl, rfl⟩ := e2
  exact ⟨rfl, rfl, J', e4⟩
set_option maxRecDepth 20000 in
theorem ap_X20_pass {h : MH} (J : JJ zJ h) (a0 : Int) : MCal KX20_pass yX20_pass 0 0 [(2, ((2448 : Nat) : Int)), (0, a0)] h (mRI (fun _ h2 => JJ zJ h2 ∧ Frm (kMd ct_X20_pass) h h2)) := by
  have z := JJ.call (q := (KX20_pass, yX20_pass, 20, 1, 0)) ok_X20_pass (by decide +kernel) rfl (ρ := (fun v => match v with
    | 0 => a0
    | _ => 0)) J (fun e he => absurd he List.not_mem_nil) (by
      exact fun f hf => absurd hf List.not_mem_nil)
  have e : (kA ct_X20_pass).map (fun q => (q.1, zv (fun v => match v with
    | 0 => a0
    | _ => 0) q.2)) = [(2, ((2448 : Nat) : Int)), (0, a0)] := by
    show [((2 : Nat), (2448 : Int) + 0), (0, 0 + (1 * a0 + 0))] = _
    simp only [show ∀ a : Int, (0 : Int) + (1 * a + 0) = a from fun a => by omega]
    rfl
  rw [e] at z
  refine MCal.mono ?_ z
  rintro ⟨o1, o2⟩ h' ⟨J', ρ', e1, e2, e3, e4, e5, e6, e7, e8, e9⟩
  have e2 : o1 = 1 ∧ o2 = (0, ρ' 200) := e2
  obtain ⟨rfl, rfl⟩ := e2
  exact ⟨rfl, rfl, J', e4⟩
set_option maxRecDepth 20000 in
theorem ap_X11_drive {h : MH} (J : JJ zJ h) (a0 : Int) : MCal KX11_drive yX11_drive 0 0 [(2, ((4 : Nat) : Int)), (0, a0)] h (mRI (fun _ h2 => JJ zJ h2 ∧ Frm (kMd ct_X11_drive) h h2)) := by
  have z := JJ.call (q := (KX11_drive, yX11_drive, 11, 1, 0)) ok_X11_drive (by decide +kernel) rfl (ρ := (fun v => match v with
    | 0 => a0
    | _ => 0)) J (fun e he => absurd he List.not_mem_nil) (by
      exact fun f hf => absurd hf List.not_mem_nil)
  have e : (kA ct_X11_drive).map (fun q => (q.1, zv (fun v => match v with
    | 0 => a0
    | _ => 0) q.2)) = [(2, ((4 : Nat) : Int)), (0, a0)] := by
    show [((2 : Nat), (4 : Int) + 0), (0, 0 + (1 * a0 + 0))] = _
    simp only [show ∀ a : Int, (0 : Int) + (1 * a + 0) = a from fun a => by omega]
    rfl
  rw [e] at z
  refine MCal.mono ?_ z
  rintro ⟨o1, o2⟩ h' ⟨J', ρ', e1, e2, e3, e4, e5, e6, e7, e8, e9⟩
  have e2 : o1 = 1 ∧ o2 = (0, ρ' 200) := e2
  obtain ⟨rfl, rfl⟩ := e2
  exact ⟨rfl, rfl, J', e4⟩
set_option maxRecDepth 20000 in
theorem ap_X20_drive {h : MH} (J : JJ zJ h) (a0 : Int) : MCal KX20_drive yX20_drive 0 0 [(2, ((2448 : Nat) : Int)), (0, a0)] h (mRI (fun _ h2 => JJ zJ h2 ∧ Frm (kMd ct_X20_drive) h h2)) := by
  have z := JJ.call (q := (KX20_drive, yX20_drive, 20, 1, 0)) ok_X20_drive (by decide +kernel) rfl (ρ := (fun v => match v with
    | 0 => a0
    | _ => 0)) J (fun e he => absurd he List.not_mem_nil) (by
      exact fun f hf => absurd hf List.not_mem_nil)
  have e : (kA ct_X20_drive).map (fun q => (q.1, zv (fun v => match v with
    | 0 => a0
    | _ => 0) q.2)) = [(2, ((2448 : Nat) : Int)), (0, a0)] := by
    show [((2 : Nat), (2448 : Int) + 0), (0, 0 + (1 * a0 + 0))] = _
    simp only [show ∀ a : Int, (0 : Int) + (1 * a + 0) = a from fun a => by omega]
    rfl
  rw [e] at z
  refine MCal.mono ?_ z
  rintro ⟨o1, o2⟩ h' ⟨J', ρ', e1, e2, e3, e4, e5, e6, e7, e8, e9⟩
  have e2 : o1 = 1 ∧ o2 = (0, ρ' 200) := e2
  obtain ⟨rfl, rfl⟩ := e2
  exact ⟨rfl, rfl, J', e4⟩
set_option maxRecDepth 20000 in
theorem ap_X11_bill {h : MH} (J : JJ zJ h) (a0 : Int) : MCal KX11_bill yX11_bill 0 0 [(2, ((4 : Nat) : Int)), (0, a0)] h (mRI (fun _ h2 => JJ zJ h2 ∧ Frm (kMd ct_X11_bill) h h2)) := by
  have z := JJ.call (q := (KX11_bill, yX11_bill, 11, 1, 0)) ok_X11_bill (by decide +kernel) rfl (ρ := (fun v => match v with
    | 0 => a0
    | _ => 0)) J (fun e he => absurd he List.not_mem_nil) (by
      exact fun f hf => absurd hf List.not_mem_nil)
  have e : (kA ct_X11_bill).map (fun q => (q.1, zv (fun v => match v with
    | 0 => a0
    | _ => 0) q.2)) = [(2, ((4 : Nat) : Int)), (0, a0)] := by
    show [((2 : Nat), (4 : Int) + 0), (0, 0 + (1 * a0 + 0))] = _
    simp only [show ∀ a : Int, (0 : Int) + (1 * a + 0) = a from fun a => by omega]
    rfl
  rw [e] at z
  refine MCal.mono ?_ z
  rintro ⟨o1, o2⟩ h' ⟨J', ρ', e1, e2, e3, e4, e5, e6, e7, e8, e9⟩
  have e2 : o1 = 1 ∧ o2 = (0, ρ' 200) := e2
  obtain ⟨rfl, rfl⟩ := e2
  exact ⟨rfl, rfl, J', e4⟩
set_option maxRecDepth 20000 in
theorem ap_X20_bill {h : MH} (J : JJ zJ h) (a0 : Int) : MCal KX20_bill yX20_bill 0 0 [(2, ((2448 : Nat) : Int)), (0, a0)] h (mRI (fun _ h2 => JJ zJ h2 ∧ Frm (kMd ct_X20_bill) h h2)) := by
  have z := JJ.call (q := (KX20_bill, yX20_bill, 20, 1, 0)) ok_X20_bill (by decide +kernel) rfl (ρ := (fun v => match v with
    | 0 => a0
    | _ => 0)) J (fun e he => absurd he List.not_mem_nil) (by
      exact fun f hf => absurd hf List.not_mem_nil)
  have e : (kA ct_X20_bill).map (fun q => (q.1, zv (fun v => match v with
    | 0 => a0
    | _ => 0) q.2)) = [(2, ((2448 : Nat) : Int)), (0, a0)] := by
    show [((2 : Nat), (2448 : Int) + 0), (0, 0 + (1 * a0 + 0))] = _
    simp only [show ∀ a : Int, (0 : Int) + (1 * a + 0) = a from fun a => by omega]
    rfl
  rw [e] at z
  refine MCal.mono ?_ z
  rintro ⟨o1, o2⟩ h' ⟨J', ρ', e1, e2, e3, e4, e5, e6, e7, e8, e9⟩
  have e2 : o1 = 1 ∧ o2 = (0, ρ' 200) := e2
  obtain ⟨rfl, rfl⟩ := e2
  exact ⟨rfl, rfl, J', e4⟩
set_option maxRecDepth 20000 in
theorem ap_X11_whole {h : MH} (J : JJ zJ h) (a0 : Int) : MCal KX11_whole yX11_whole 0 0 [(2, ((4 : Nat) : Int)), (0, a0)] h (mRI (fun _ h2 => JJ zJ h2 ∧ Frm (kMd ct_X11_whole) h h2)) := by
  have z := JJ.call (q := (KX11_whole, yX11_whole, 11, 1, 0)) ok_X11_whole (by decide +kernel) rfl (ρ := (fun v => match v with
    | 0 => a0
    | _ => 0)) J (fun e he => absurd he List.not_mem_nil) (by
      exact fun f hf => absurd hf List.not_mem_nil)
  have e : (kA ct_X11_whole).map (fun q => (q.1, zv (fun v => match v with
    | 0 => a0
    | _ => 0) q.2)) = [(2, ((4 : Nat) : Int)), (0, a0)] := by
    show [((2 : Nat), (4 : Int) + 0), (0, 0 + (1 * a0 + 0))] = _
    simp only [show ∀ a : Int, (0 : Int) + (1 * a + 0) = a from fun a => by omega]
    rfl
  rw [e] at z
  refine MCal.mono ?_ z
  rintro ⟨o1, o2⟩ h' ⟨J', ρ', e1, e2, e3, e4, e5, e6, e7, e8, e9⟩
  have e2 : o1 = 1 ∧ o2 = (0, ρ' 200) := e2
  obtain ⟨rfl, rfl⟩ := e2
  exact ⟨rfl, rfl, J', e4⟩
set_option maxRecDepth 20000 in
theorem ap_X20_whole {h : MH} (J : JJ zJ h) (a0 : Int) : MCal KX20_whole yX20_whole 0 0 [(2, ((2448 : Nat) : Int)), (0, a0)] h (mRI (fun _ h2 => JJ zJ h2 ∧ Frm (kMd ct_X20_whole) h h2)) := by
  have z := JJ.call (q := (KX20_whole, yX20_whole, 20, 1, 0)) ok_X20_whole (by decide +kernel) rfl (ρ := (fun v => match v with
    | 0 => a0
    | _ => 0)) J (fun e he => absurd he List.not_mem_nil) (by
      exact fun f hf => absurd hf List.not_mem_nil)
  have e : (kA ct_X20_whole).map (fun q => (q.1, zv (fun v => match v with
    | 0 => a0
    | _ => 0) q.2)) = [(2, ((2448 : Nat) : Int)), (0, a0)] := by
    show [((2 : Nat), (2448 : Int) + 0), (0, 0 + (1 * a0 + 0))] = _
    simp only [show ∀ a : Int, (0 : Int) + (1 * a + 0) = a from fun a => by omega]
    rfl
  rw [e] at z
  refine MCal.mono ?_ z
  rintro ⟨o1, o2⟩ h' ⟨J', ρ', e1, e2, e3, e4, e5, e6, e7, e8, e9⟩
  have e2 : o1 = 1 ∧ o2 = (0, ρ' 200) := e2
  obtain ⟨rfl, rfl⟩ := e2
  exact ⟨rfl, rfl, J', e4⟩
set_option maxRecDepth 20000 in
theorem ap_X11_crack {h : MH} (J : JJ zJ h) (a0 a1 a2 : Int) : MCal KX11_crack yX11_crack 0 0 [(2, ((4 : Nat) : Int)), (3, a0), (3, a1), (0, a2)] h (mRI (fun _ h2 => JJ zJ h2 ∧ Frm (kMd ct_X11_crack) h h2)) := by
  have z := JJ.call (q := (KX11_crack, yX11_crack, 11, 3, 0)) ok_X11_crack (by decide +kernel) rfl (ρ := (fun v => match v with
    | 0 => a0
    | 1 => a1
    | 2 => a2
    | _ => 0)) J (fun e he => absurd he List.not_mem_nil) (by
      exact fun f hf => absurd hf List.not_mem_nil)
  have e : (kA ct_X11_crack).map (fun q => (q.1, zv (fun v => match v with
    | 0 => a0
    | 1 => a1
    | 2 => a2
    | _ => 0) q.2)) = [(2, ((4 : Nat) : Int)), (3, a0), (3, a1), (0, a2)] := by
    show [((2 : Nat), (4 : Int) + 0), (3, 0 + (1 * a0 + 0)), (3, 0 + (1 * a1 + 0)), (0, 0 + (1 * a2 + 0))] = _
    simp only [show ∀ a : Int, (0 : Int) + (1 * a + 0) = a from fun a => by omega]
    rfl
  rw [e] at z
  refine MCal.mono ?_ z
  rintro ⟨o1, o2⟩ h' ⟨J', ρ', e1, e2, e3, e4, e5, e6, e7, e8, e9⟩
  have e2 : o1 = 1 ∧ o2 = (0, ρ' 200) := e2
  obtain ⟨rfl, rfl⟩ := e2
  exact ⟨rfl, rfl, J', e4⟩
set_option maxRecDepth 20000 in
theorem ap_X11_crackAt {h : MH} (J : JJ zJ h) (a0 : Int) : MCal KX11_crackAt yX11_crackAt 0 0 [(2, ((4 : Nat) : Int)), (0, a0)] h (mRD (fun _ h2 => JJ zJ h2 ∧ Frm (kMd ct_X11_crackAt) h h2)) := by
  have z := JJ.call (q := (KX11_crackAt, yX11_crackAt, 11, 1, 0)) ok_X11_crackAt (by decide +kernel) rfl (ρ := (fun v => match v with
    | 0 => a0
    | _ => 0)) J (fun e he => absurd he List.not_mem_nil) (by
      exact fun f hf => absurd hf List.not_mem_nil)
  have e : (kA ct_X11_crackAt).map (fun q => (q.1, zv (fun v => match v with
    | 0 => a0
    | _ => 0) q.2)) = [(2, ((4 : Nat) : Int)), (0, a0)] := by
    show [((2 : Nat), (4 : Int) + 0), (0, 0 + (1 * a0 + 0))] = _
    simp only [show ∀ a : Int, (0 : Int) + (1 * a + 0) = a from fun a => by omega]
    rfl
  rw [e] at z
  refine MCal.mono ?_ z
  rintro ⟨o1, o2⟩ h' ⟨J', ρ', e1, e2, e3, e4, e5, e6, e7, e8, e9⟩
  have e2 : o1 = 1 ∧ o2 = (3, ρ' 200) := e2
  obtain ⟨rfl, rfl⟩ := e2
  exact ⟨rfl, rfl, J', e4⟩
set_option maxRecDepth 20000 in
theorem ap_X20_crack {h : MH} (J : JJ zJ h) (a0 a1 a2 : Int) : MCal KX20_crack yX20_crack 0 0 [(2, ((2448 : Nat) : Int)), (3, a0), (3, a1), (0, a2)] h (mRI (fun _ h2 => JJ zJ h2 ∧ Frm (kMd ct_X20_crack) h h2)) := by
  have z := JJ.call (q := (KX20_crack, yX20_crack, 20, 3, 0)) ok_X20_crack (by decide +kernel) rfl (ρ := (fun v => match v with
    | 0 => a0
    | 1 => a1
    | 2 => a2
    | _ => 0)) J (fun e he => absurd he List.not_mem_nil) (by
      exact fun f hf => absurd hf List.not_mem_nil)
  have e : (kA ct_X20_crack).map (fun q => (q.1, zv (fun v => match v with
    | 0 => a0
    | 1 => a1
    | 2 => a2
    | _ => 0) q.2)) = [(2, ((2448 : Nat) : Int)), (3, a0), (3, a1), (0, a2)] := by
    show [((2 : Nat), (2448 : Int) + 0), (3, 0 + (1 * a0 + 0)), (3, 0 + (1 * a1 + 0)), (0, 0 + (1 * a2 + 0))] = _
    simp only [show ∀ a : Int, (0 : Int) + (1 * a + 0) = a from fun a => by omega]
    rfl
  rw [e] at z
  refine MCal.mono ?_ z
  rintro ⟨o1, o2⟩ h' ⟨J', ρ', e1, e2, e3, e4, e5, e6, e7, e8, e9⟩
  have e2 : o1 = 1 ∧ o2 = (0, ρ' 200) := e2
  obtain ⟨rfl, rfl⟩ := e2
  exact ⟨rfl, rfl, J', e4⟩
set_option maxRecDepth 20000 in
theorem ap_X20_crackAt {h : MH} (J : JJ zJ h) (a0 : Int) : MCal KX20_crackAt yX20_crackAt 0 0 [(2, ((2448 : Nat) : Int)), (0, a0)] h (mRD (fun _ h2 => JJ zJ h2 ∧ Frm (kMd ct_X20_crackAt) h h2)) := by
  have z := JJ.call (q := (KX20_crackAt, yX20_crackAt, 20, 1, 0)) ok_X20_crackAt (by decide +kernel) rfl (ρ := (fun v => match v with
    | 0 => a0
    | _ => 0)) J (fun e he => absurd he List.not_mem_nil) (by
      exact fun f hf => absurd hf List.not_mem_nil)
  have e : (kA ct_X20_crackAt).map (fun q => (q.1, zv (fun v => match v with
    | 0 => a0
    | _ => 0) q.2)) = [(2, ((2448 : Nat) : Int)), (0, a0)] := by
    show [((2 : Nat), (2448 : Int) + 0), (0, 0 + (1 * a0 + 0))] = _
    simp only [show ∀ a : Int, (0 : Int) + (1 * a + 0) = a from fun a => by omega]
    rfl
  rw [e] at z
  refine MCal.mono ?_ z
  rintro ⟨o1, o2⟩ h' ⟨J', ρ', e1, e2, e3, e4, e5, e6, e7, e8, e9⟩
  have e2 : o1 = 1 ∧ o2 = (3, ρ' 200) := e2
  obtain ⟨rfl, rfl⟩ := e2
  exact ⟨rfl, rfl, J', e4⟩
set_option maxRecDepth 20000 in
theorem ap_X20_act {h : MH} (J : JJ zJ h) (a0 a1 a2 a3 a4 a5 : Int) (f0 : 0 ≤ 95 - 1 * gz h 2570 6) : MCal KX20_act yX20_act 0 0 [(2, ((2448 : Nat) : Int)), (0, a0), (0, a1), (0, a2), (0, a3), (0, a4), (0, a5)] h (mRL (fun _ h2 => JJ zJ h2 ∧ Frm (kMd ct_X20_act) h h2 ∧ gz h2 2570 6 ≤ gz h 2570 6 + 1)) := by
  have z := JJ.call (q := (KX20_act, yX20_act, 20, 6, 0)) ok_X20_act (by decide +kernel) rfl (ρ := (fun v => match v with
    | 0 => a0
    | 1 => a1
    | 2 => a2
    | 3 => a3
    | 4 => a4
    | 5 => a5
    | 50 => gz h 2570 6
    | _ => 0)) J (List.forall_mem_cons.mpr ⟨rfl, (fun e he => absurd he List.not_mem_nil)⟩) (by
      intro f hf
      have hf : f ∈ [((95 : Int), [((50 : Nat), ((-1) : Int))])] := hf
      simp only [List.mem_cons, List.not_mem_nil, or_false] at hf
      subst hf
      simp only [zv, zl]
      omega)
  have e : (kA ct_X20_act).map (fun q => (q.1, zv (fun v => match v with
    | 0 => a0
    | 1 => a1
    | 2 => a2
    | 3 => a3
    | 4 => a4
    | 5 => a5
    | 50 => gz h 2570 6
    | _ => 0) q.2)) = [(2, ((2448 : Nat) : Int)), (0, a0), (0, a1), (0, a2), (0, a3), (0, a4), (0, a5)] := by
    show [((2 : Nat), (2448 : Int) + 0), (0, 0 + (1 * a0 + 0)), (0, 0 + (1 * a1 + 0)), (0, 0 + (1 * a2 + 0)), (0, 0 + (1 * a3 + 0)), (0, 0 + (1 * a4 + 0)), (0, 0 + (1 * a5 + 0))] = _
    simp only [show ∀ a : Int, (0 : Int) + (1 * a + 0) = a from fun a => by omega]
    rfl
  rw [e] at z
  refine MCal.mono ?_ z
  rintro ⟨o1, o2⟩ h' ⟨J', ρ', e1, e2, e3, e4, e5, e6, e7, e8, e9⟩
  have e2 : o1 = 1 ∧ o2 = (1, ρ' 200) := e2
  obtain ⟨rfl, rfl⟩ := e2
  have x1 : gz h' 2570 6 = ρ' 201 := e5 _ List.mem_cons_self
  have x2 : ρ' 50 = gz h 2570 6 := e1 50 (by decide)
  have f1 := e6 _ List.mem_cons_self
  have f2 := e6 _ (List.mem_cons_of_mem _ List.mem_cons_self)
  simp only [zv, zl] at f1 f2
  exact ⟨rfl, rfl, J', e4, by omega⟩
set_option maxRecDepth 20000 in
theorem ap_X11_act_d {h : MH} (J : JJ zJ h) (a0 a1 a2 a3 a4 a5 : Int) (f0 : 0 ≤ -800 + 1 * a0) : MCal KX11_act yX11_act 0 0 [(2, ((4 : Nat) : Int)), (0, a0), (0, a1), (0, a2), (0, a3), (0, a4), (0, a5)] h (mRL (fun _ h2 => JJ zJ h2 ∧ Frm (kMd ct_X11_act_d) h h2)) := by
  have z := JJ.call (q := (KX11_act, yX11_act, 11, 6, 0)) ok_X11_act_d (by decide +kernel) rfl (ρ := (fun v => match v with
    | 0 => a0
    | 1 => a1
    | 2 => a2
    | 3 => a3
    | 4 => a4
    | 5 => a5
    | _ => 0)) J (fun e he => absurd he List.not_mem_nil) (by
      intro f hf
      have hf : f ∈ [(((-800) : Int), [((0 : Nat), (1 : Int))])] := hf
      simp only [List.mem_cons, List.not_mem_nil, or_false] at hf
      subst hf
      simp only [zv, zl]
      omega)
  have e : (kA ct_X11_act_d).map (fun q => (q.1, zv (fun v => match v with
    | 0 => a0
    | 1 => a1
    | 2 => a2
    | 3 => a3
    | 4 => a4
    | 5 => a5
    | _ => 0) q.2)) = [(2, ((4 : Nat) : Int)), (0, a0), (0, a1), (0, a2), (0, a3), (0, a4), (0, a5)] := by
    show [((2 : Nat), (4 : Int) + 0), (0, 0 + (1 * a0 + 0)), (0, 0 + (1 * a1 + 0)), (0, 0 + (1 * a2 + 0)), (0, 0 + (1 * a3 + 0)), (0, 0 + (1 * a4 + 0)), (0, 0 + (1 * a5 + 0))] = _
    simp only [show ∀ a : Int, (0 : Int) + (1 * a + 0) = a from fun a => by omega]
    rfl
  rw [e] at z
  refine MCal.mono ?_ z
  rintro ⟨o1, o2⟩ h' ⟨J', ρ', e1, e2, e3, e4, e5, e6, e7, e8, e9⟩
  have e2 : o1 = 1 ∧ o2 = (1, ρ' 200) := e2
  obtain ⟨rfl, rfl⟩ := e2
  exact ⟨rfl, rfl, J', e4⟩
set_option maxRecDepth 20000 in
theorem ap_X11_act_k1hi {h : MH} (J : JJ zJ h) (a0 a1 a2 a3 a4 a5 : Int) (f0 : 0 ≤ -109 + 1 * a0) (f1 : 0 ≤ 199 - 1 * a0) : MCal KX11_act yX11_act 0 0 [(2, ((4 : Nat) : Int)), (0, a0), (0, a1), (0, a2), (0, a3), (0, a4), (0, a5)] h (mRL (fun _ h2 => JJ zJ h2 ∧ Frm (kMd ct_X11_act_k1hi) h h2)) := by
  have z := JJ.call (q := (KX11_act, yX11_act, 11, 6, 0)) ok_X11_act_k1hi (by decide +kernel) rfl (ρ := (fun v => match v with
    | 0 => a0
    | 1 => a1
    | 2 => a2
    | 3 => a3
    | 4 => a4
    | 5 => a5
    | _ => 0)) J (fun e he => absurd he List.not_mem_nil) (by
      intro f hf
      have hf : f ∈ [(((-109) : Int), [((0 : Nat), (1 : Int))]), ((199 : Int), [((0 : Nat), ((-1) : Int))])] := hf
      simp only [List.mem_cons, List.not_mem_nil, or_false] at hf
      rcases hf with rfl | rfl <;> simp only [zv, zl] <;> omega)
  have e : (kA ct_X11_act_k1hi).map (fun q => (q.1, zv (fun v => match v with
    | 0 => a0
    | 1 => a1
    | 2 => a2
    | 3 => a3
    | 4 => a4
    | 5 => a5
    | _ => 0) q.2)) = [(2, ((4 : Nat) : Int)), (0, a0), (0, a1), (0, a2), (0, a3), (0, a4), (0, a5)] := by
    show [((2 : Nat), (4 : Int) + 0), (0, 0 + (1 * a0 + 0)), (0, 0 + (1 * a1 + 0)), (0, 0 + (1 * a2 + 0)), (0, 0 + (1 * a3 + 0)), (0, 0 + (1 * a4 + 0)), (0, 0 + (1 * a5 + 0))] = _
    simp only [show ∀ a : Int, (0 : Int) + (1 * a + 0) = a from fun a => by omega]
    rfl
  rw [e] at z
  refine MCal.mono ?_ z
  rintro ⟨o1, o2⟩ h' ⟨J', ρ', e1, e2, e3, e4, e5, e6, e7, e8, e9⟩
  have e2 : o1 = 1 ∧ o2 = (1, ρ' 200) := e2
  obtain ⟨rfl, rfl⟩ := e2
  exact ⟨rfl, rfl, J', e4⟩
set_option maxRecDepth 20000 in
theorem ap_X11_act_k1lo {h : MH} (J : JJ zJ h) (a0 a1 a2 a3 a4 a5 : Int) (f0 : 0 ≤ -100 + 1 * a0) (f1 : 0 ≤ 107 - 1 * a0) : MCal KX11_act yX11_act 0 0 [(2, ((4 : Nat) : Int)), (0, a0), (0, a1), (0, a2), (0, a3), (0, a4), (0, a5)] h (mRL (fun _ h2 => JJ zJ h2 ∧ Frm (kMd ct_X11_act_k1lo) h h2)) := by
  have z := JJ.call (q := (KX11_act, yX11_act, 11, 6, 0)) ok_X11_act_k1lo (by decide +kernel) rfl (ρ := (fun v => match v with
    | 0 => a0
    | 1 => a1
    | 2 => a2
    | 3 => a3
    | 4 => a4
    | 5 => a5
    | _ => 0)) J (fun e he => absurd he List.not_mem_nil) (by
      intro f hf
      have hf : f ∈ [(((-100) : Int), [((0 : Nat), (1 : Int))]), ((107 : Int), [((0 : Nat), ((-1) : Int))])] := hf
      simp only [List.mem_cons, List.not_mem_nil, or_false] at hf
      rcases hf with rfl | rfl <;> simp only [zv, zl] <;> omega)
  have e : (kA ct_X11_act_k1lo).map (fun q => (q.1, zv (fun v => match v with
    | 0 => a0
    | 1 => a1
    | 2 => a2
    | 3 => a3
    | 4 => a4
    | 5 => a5
    | _ => 0) q.2)) = [(2, ((4 : Nat) : Int)), (0, a0), (0, a1), (0, a2), (0, a3), (0, a4), (0, a5)] := by
    show [((2 : Nat), (4 : Int) + 0), (0, 0 + (1 * a0 + 0)), (0, 0 + (1 * a1 + 0)), (0, 0 + (1 * a2 + 0)), (0, 0 + (1 * a3 + 0)), (0, 0 + (1 * a4 + 0)), (0, 0 + (1 * a5 + 0))] = _
    simp only [show ∀ a : Int, (0 : Int) + (1 * a + 0) = a from fun a => by omega]
    rfl
  rw [e] at z
  refine MCal.mono ?_ z
  rintro ⟨o1, o2⟩ h' ⟨J', ρ', e1, e2, e3, e4, e5, e6, e7, e8, e9⟩
  have e2 : o1 = 1 ∧ o2 = (1, ρ' 200) := e2
  obtain ⟨rfl, rfl⟩ := e2
  exact ⟨rfl, rfl, J', e4⟩
set_option maxRecDepth 20000 in
theorem ap_X11_act_k1s0 {h : MH} (J : JJ zJ h) (a0 a1 a2 a3 a4 a5 : Int) (f0 : 0 ≤ -108 + 1 * a0) (f1 : 0 ≤ 108 - 1 * a0) (f2 : 0 ≤ 0 + 1 * gz h 35 0 + 1 * gz h 35 1) (f3 : 0 ≤ 0 - 1 * gz h 35 0 - 1 * gz h 35 1) (f4 : 0 ≤ 0 + 1 * a1) : MCal KX11_act yX11_act 0 0 [(2, ((4 : Nat) : Int)), (0, a0), (0, a1), (0, a2), (0, a3), (0, a4), (0, a5)] h (mRL (fun _ h2 => JJ zJ h2 ∧ Frm (kMd ct_X11_act_k1s0) h h2)) := by
  have z := JJ.call (q := (KX11_act, yX11_act, 11, 6, 0)) ok_X11_act_k1s0 (by decide +kernel) rfl (ρ := (fun v => match v with
    | 0 => a0
    | 1 => a1
    | 2 => a2
    | 3 => a3
    | 4 => a4
    | 5 => a5
    | 50 => gz h 35 0
    | 51 => gz h 35 1
    | 52 => gz h 35 2
    | _ => 0)) J (List.forall_mem_cons.mpr ⟨rfl, (List.forall_mem_cons.mpr ⟨rfl, (List.forall_mem_cons.mpr ⟨rfl, (fun e he => absurd he List.not_mem_nil)⟩)⟩)⟩) (by
      intro f hf
      have hf : f ∈ [(((-108) : Int), [((0 : Nat), (1 : Int))]), ((108 : Int), [((0 : Nat), ((-1) : Int))]), ((0 : Int), [((50 : Nat), (1 : Int)), ((51 : Nat), (1 : Int))]), ((0 : Int), [((50 : Nat), ((-1) : Int)), ((51 : Nat), ((-1) : Int))]), ((0 : Int), [((1 : Nat), (1 : Int))])] := hf
      simp only [List.mem_cons, List.not_mem_nil, or_false] at hf
      rcases hf with rfl | rfl | rfl | rfl | rfl <;> simp only [zv, zl] <;> omega)
  have e : (kA ct_X11_act_k1s0).map (fun q => (q.1, zv (fun v => match v with
    | 0 => a0
    | 1 => a1
    | 2 => a2
    | 3 => a3
    | 4 => a4
    | 5 => a5
    | 50 => gz h 35 0
    | 51 => gz h 35 1
    | 52 => gz h 35 2
    | _ => 0) q.2)) = [(2, ((4 : Nat) : Int)), (0, a0), (0, a1), (0, a2), (0, a3), (0, a4), (0, a5)] := by
    show [((2 : Nat), (4 : Int) + 0), (0, 0 + (1 * a0 + 0)), (0, 0 + (1 * a1 + 0)), (0, 0 + (1 * a2 + 0)), (0, 0 + (1 * a3 + 0)), (0, 0 + (1 * a4 + 0)), (0, 0 + (1 * a5 + 0))] = _
    simp only [show ∀ a : Int, (0 : Int) + (1 * a + 0) = a from fun a => by omega]
    rfl
  rw [e] at z
  refine MCal.mono ?_ z
  rintro ⟨o1, o2⟩ h' ⟨J', ρ', e1, e2, e3, e4, e5, e6, e7, e8, e9⟩
  have e2 : o1 = 1 ∧ o2 = (1, ρ' 200) := e2
  obtain ⟨rfl, rfl⟩ := e2
  exact ⟨rfl, rfl, J', e4⟩
set_option maxRecDepth 20000 in
theorem ap_X11_act_k1s1 {h : MH} (J : JJ zJ h) (a0 a1 a2 a3 a4 a5 : Int) (f0 : 0 ≤ -108 + 1 * a0) (f1 : 0 ≤ 108 - 1 * a0) (f2 : 0 ≤ -1 + 1 * gz h 35 0 + 1 * gz h 35 1) (f3 : 0 ≤ 1 - 1 * gz h 35 0 - 1 * gz h 35 1) (f4 : 0 ≤ 0 + 1 * a1 - 1 * gz h 35 2) : MCal KX11_act yX11_act 0 0 [(2, ((4 : Nat) : Int)), (0, a0), (0, a1), (0, a2), (0, a3), (0, a4), (0, a5)] h (mRL (fun _ h2 => JJ zJ h2 ∧ Frm (kMd ct_X11_act_k1s1) h h2)) := by
  have z := JJ.call (q := (KX11_act, yX11_act, 11, 6, 0)) ok_X11_act_k1s1 (by decide +kernel) rfl (ρ := (fun v => match v with
    | 0 => a0
    | 1 => a1
    | 2 => a2
    | 3 => a3
    | 4 => a4
    | 5 => a5
    | 50 => gz h 35 0
    | 51 => gz h 35 1
    | 52 => gz h 35 2
    | _ => 0)) J (List.forall_mem_cons.mpr ⟨rfl, (List.forall_mem_cons.mpr ⟨rfl, (List.forall_mem_cons.mpr ⟨rfl, (fun e he => absurd he List.not_mem_nil)⟩)⟩)⟩) (by
      intro f hf
      have hf : f ∈ [(((-108) : Int), [((0 : Nat), (1 : Int))]), ((108 : Int), [((0 : Nat), ((-1) : Int))]), (((-1) : Int), [((50 : Nat), (1 : Int)), ((51 : Nat), (1 : Int))]), ((1 : Int), [((50 : Nat), ((-1) : Int)), ((51 : Nat), ((-1) : Int))]), ((0 : Int), [((1 : Nat), (1 : Int)), ((52 : Nat), ((-1) : Int))])] := hf
      simp only [List.mem_cons, List.not_mem_nil, or_false] at hf
      rcases hf with rfl | rfl | rfl | rfl | rfl <;> simp only [zv, zl] <;> omega)
  have e : (kA ct_X11_act_k1s1).map (fun q => (q.1, zv (fun v => match v with
    | 0 => a0
    | 1 => a1
    | 2 => a2
    | 3 => a3
    | 4 => a4
    | 5 => a5
    | 50 => gz h 35 0
    | 51 => gz h 35 1
    | 52 => gz h 35 2
    | _ => 0) q.2)) = [(2, ((4 : Nat) : Int)), (0, a0), (0, a1), (0, a2), (0, a3), (0, a4), (0, a5)] := by
    show [((2 : Nat), (4 : Int) + 0), (0, 0 + (1 * a0 + 0)), (0, 0 + (1 * a1 + 0)), (0, 0 + (1 * a2 + 0)), (0, 0 + (1 * a3 + 0)), (0, 0 + (1 * a4 + 0)), (0, 0 + (1 * a5 + 0))] = _
    simp only [show ∀ a : Int, (0 : Int) + (1 * a + 0) = a from fun a => by omega]
    rfl
  rw [e] at z
  refine MCal.mono ?_ z
  rintro ⟨o1, o2⟩ h' ⟨J', ρ', e1, e2, e3, e4, e5, e6, e7, e8, e9⟩
  have e2 : o1 = 1 ∧ o2 = (1, ρ' 200) := e2
  obtain ⟨rfl, rfl⟩ := e2
  exact ⟨rfl, rfl, J', e4⟩
set_option maxRecDepth 20000 in
theorem ap_X11_act_k1s10 {h : MH} (J : JJ zJ h) (a0 a1 a2 a3 a4 a5 : Int) (f0 : 0 ≤ -108 + 1 * a0) (f1 : 0 ≤ 108 - 1 * a0) (f2 : 0 ≤ -10 + 1 * gz h 35 0 + 1 * gz h 35 1) (f3 : 0 ≤ 10 - 1 * gz h 35 0 - 1 * gz h 35 1) (f4 : 0 ≤ 0 + 1 * a1 - 10 * gz h 35 2) : MCal KX11_act yX11_act 0 0 [(2, ((4 : Nat) : Int)), (0, a0), (0, a1), (0, a2), (0, a3), (0, a4), (0, a5)] h (mRL (fun _ h2 => JJ zJ h2 ∧ Frm (kMd ct_X11_act_k1s10) h h2)) := by
  have z := JJ.call (q := (KX11_act, yX11_act, 11, 6, 0)) ok_X11_act_k1s10 (by decide +kernel) rfl (ρ := (fun v => match v with
    | 0 => a0
    | 1 => a1
    | 2 => a2
    | 3 => a3
    | 4 => a4
    | 5 => a5
    | 50 => gz h 35 0
    | 51 => gz h 35 1
    | 52 => gz h 35 2
    | _ => 0)) J (List.forall_mem_cons.mpr ⟨rfl, (List.forall_mem_cons.mpr ⟨rfl, (List.forall_mem_cons.mpr ⟨rfl, (fun e he => absurd he List.not_mem_nil)⟩)⟩)⟩) (by
      intro f hf
      have hf : f ∈ [(((-108) : Int), [((0 : Nat), (1 : Int))]), ((108 : Int), [((0 : Nat), ((-1) : Int))]), (((-10) : Int), [((50 : Nat), (1 : Int)), ((51 : Nat), (1 : Int))]), ((10 : Int), [((50 : Nat), ((-1) : Int)), ((51 : Nat), ((-1) : Int))]), ((0 : Int), [((1 : Nat), (1 : Int)), ((52 : Nat), ((-10) : Int))])] := hf
      simp only [List.mem_cons, List.not_mem_nil, or_false] at hf
      rcases hf with rfl | rfl | rfl | rfl | rfl <;> simp only [zv, zl] <;> omega)
  have e : (kA ct_X11_act_k1s10).map (fun q => (q.1, zv (fun v => match v with
    | 0 => a0
    | 1 => a1
    | 2 => a2
    | 3 => a3
    | 4 => a4
    | 5 => a5
    | 50 => gz h 35 0
    | 51 => gz h 35 1
    | 52 => gz h 35 2
    | _ => 0) q.2)) = [(2, ((4 : Nat) : Int)), (0, a0), (0, a1), (0, a2), (0, a3), (0, a4), (0, a5)] := by
    show [((2 : Nat), (4 : Int) + 0), (0, 0 + (1 * a0 + 0)), (0, 0 + (1 * a1 + 0)), (0, 0 + (1 * a2 + 0)), (0, 0 + (1 * a3 + 0)), (0, 0 + (1 * a4 + 0)), (0, 0 + (1 * a5 + 0))] = _
    simp only [show ∀ a : Int, (0 : Int) + (1 * a + 0) = a from fun a => by omega]
    rfl
  rw [e] at z
  refine MCal.mono ?_ z
  rintro ⟨o1, o2⟩ h' ⟨J', ρ', e1, e2, e3, e4, e5, e6, e7, e8, e9⟩
  have e2 : o1 = 1 ∧ o2 = (1, ρ' 200) := e2
  obtain ⟨rfl, rfl⟩ := e2
  exact ⟨rfl, rfl, J', e4⟩
set_option maxRecDepth 20000 in
theorem ap_X11_act_k1s11 {h : MH} (J : JJ zJ h) (a0 a1 a2 a3 a4 a5 : Int) (f0 : 0 ≤ -108 + 1 * a0) (f1 : 0 ≤ 108 - 1 * a0) (f2 : 0 ≤ -11 + 1 * gz h 35 0 + 1 * gz h 35 1) (f3 : 0 ≤ 11 - 1 * gz h 35 0 - 1 * gz h 35 1) (f4 : 0 ≤ 0 + 1 * a1 - 11 * gz h 35 2) : MCal KX11_act yX11_act 0 0 [(2, ((4 : Nat) : Int)), (0, a0), (0, a1), (0, a2), (0, a3), (0, a4), (0, a5)] h (mRL (fun _ h2 => JJ zJ h2 ∧ Frm (kMd ct_X11_act_k1s11) h h2)) := by
  have z := JJ.call (q := (KX11_act, yX11_act, 11, 6, 0)) ok_X11_act_k1s11 (by decide +kernel) rfl (ρ := (fun v => match v with
    | 0 => a0
    | 1 => a1
    | 2 => a2
    | 3 => a3
    | 4 => a4
    | 5 => a5
    | 50 => gz h 35 0
    | 51 => gz h 35 1
    | 52 => gz h 35 2
    | _ => 0)) J (List.forall_mem_cons.mpr ⟨rfl, (List.forall_mem_cons.mpr ⟨rfl, (List.forall_mem_cons.mpr ⟨rfl, (fun e he => absurd he List.not_mem_nil)⟩)⟩)⟩) (by
      intro f hf
      have hf : f ∈ [(((-108) : Int), [((0 : Nat), (1 : Int))]), ((108 : Int), [((0 : Nat), ((-1) : Int))]), (((-11) : Int), [((50 : Nat), (1 : Int)), ((51 : Nat), (1 : Int))]), ((11 : Int), [((50 : Nat), ((-1) : Int)), ((51 : Nat), ((-1) : Int))]), ((0 : Int), [((1 : Nat), (1 : Int)), ((52 : Nat), ((-11) : Int))])] := hf
      simp only [List.mem_cons, List.not_mem_nil, or_false] at hf
      rcases hf with rfl | rfl | rfl | rfl | rfl <;> simp only [zv, zl] <;> omega)
  have e : (kA ct_X11_act_k1s11).map (fun q => (q.1, zv (fun v => match v with
    | 0 => a0
    | 1 => a1
    | 2 => a2
    | 3 => a3
    | 4 => a4
    | 5 => a5
    | 50 => gz h 35 0
    | 51 => gz h 35 1
    | 52 => gz h 35 2
    | _ => 0) q.2)) = [(2, ((4 : Nat) : Int)), (0, a0), (0, a1), (0, a2), (0, a3), (0, a4), (0, a5)] := by
    show [((2 : Nat), (4 : Int) + 0), (0, 0 + (1 * a0 + 0)), (0, 0 + (1 * a1 + 0)), (0, 0 + (1 * a2 + 0)), (0, 0 + (1 * a3 + 0)), (0, 0 + (1 * a4 + 0)), (0, 0 + (1 * a5 + 0))] = _
    simp only [show ∀ a : Int, (0 : Int) + (1 * a + 0) = a from fun a => by omega]
    rfl
  rw [e] at z
  refine MCal.mono ?_ z
  rintro ⟨o1, o2⟩ h' ⟨J', ρ', e1, e2, e3, e4, e5, e6, e7, e8, e9⟩
  have e2 : o1 = 1 ∧ o2 = (1, ρ' 200) := e2
  obtain ⟨rfl, rfl⟩ := e2
  exact ⟨rfl, rfl, J', e4⟩
set_option maxRecDepth 20000 in
theorem ap_X11_act_k1s12 {h : MH} (J : JJ zJ h) (a0 a1 a2 a3 a4 a5 : Int) (f0 : 0 ≤ -108 + 1 * a0) (f1 : 0 ≤ 108 - 1 * a0) (f2 : 0 ≤ -12 + 1 * gz h 35 0 + 1 * gz h 35 1) (f3 : 0 ≤ 12 - 1 * gz h 35 0 - 1 * gz h 35 1) (f4 : 0 ≤ 0 + 1 * a1 - 12 * gz h 35 2) : MCal KX11_act yX11_act 0 0 [(2, ((4 : Nat) : Int)), (0, a0), (0, a1), (0, a2), (0, a3), (0, a4), (0, a5)] h (mRL (fun _ h2 => JJ zJ h2 ∧ Frm (kMd ct_X11_act_k1s12) h h2)) := by
  have z := JJ.call (q := (KX11_act, yX11_act, 11, 6, 0)) ok_X11_act_k1s12 (by decide +kernel) rfl (ρ := (fun v => match v with
    | 0 => a0
    | 1 => a1
    | 2 => a2
    | 3 => a3
    | 4 => a4
    | 5 => a5
    | 50 => gz h 35 0
    | 51 => gz h 35 1
    | 52 => gz h 35 2
    | _ => 0)) J (List.forall_mem_cons.mpr ⟨rfl, (List.forall_mem_cons.mpr ⟨rfl, (List.forall_mem_cons.mpr ⟨rfl, (fun e he => absurd he List.not_mem_nil)⟩)⟩)⟩) (by
      intro f hf
      have hf : f ∈ [(((-108) : Int), [((0 : Nat), (1 : Int))]), ((108 : Int), [((0 : Nat), ((-1) : Int))]), (((-12) : Int), [((50 : Nat), (1 : Int)), ((51 : Nat), (1 : Int))]), ((12 : Int), [((50 : Nat), ((-1) : Int)), ((51 : Nat), ((-1) : Int))]), ((0 : Int), [((1 : Nat), (1 : Int)), ((52 : Nat), ((-12) : Int))])] := hf
      simp only [List.mem_cons, List.not_mem_nil, or_false] at hf
      rcases hf with rfl | rfl | rfl | rfl | rfl <;> simp only [zv, zl] <;> omega)
  have e : (kA ct_X11_act_k1s12).map (fun q => (q.1, zv (fun v => match v with
    | 0 => a0
    | 1 => a1
    | 2 => a2
    | 3 => a3
    | 4 => a4
    | 5 => a5
    | 50 => gz h 35 0
    | 51 => gz h 35 1
    | 52 => gz h 35 2
    | _ => 0) q.2)) = [(2, ((4 : Nat) : Int)), (0, a0), (0, a1), (0, a2), (0, a3), (0, a4), (0, a5)] := by
    show [((2 : Nat), (4 : Int) + 0), (0, 0 + (1 * a0 + 0)), (0, 0 + (1 * a1 + 0)), (0, 0 + (1 * a2 + 0)), (0, 0 + (1 * a3 + 0)), (0, 0 + (1 * a4 + 0)), (0, 0 + (1 * a5 + 0))] = _
    simp only [show ∀ a : Int, (0 : Int) + (1 * a + 0) = a from fun a => by omega]
    rfl
  rw [e] at z
  refine MCal.mono ?_ z
  rintro ⟨o1, o2⟩ h' ⟨J', ρ', e1, e2, e3, e4, e5, e6, e7, e8, e9⟩
  have e2 : o1 = 1 ∧ o2 = (1, ρ' 200) := e2
  obtain ⟨rfl, rfl⟩ := e2
  exact ⟨rfl, rfl, J', e4⟩
set_option maxRecDepth 20000 in
theorem ap_X11_act_k1s2 {h : MH} (J : JJ zJ h) (a0 a1 a2 a3 a4 a5 : Int) (f0 : 0 ≤ -108 + 1 * a0) (f1 : 0 ≤ 108 - 1 * a0) (f2 : 0 ≤ -2 + 1 * gz h 35 0 + 1 * gz h 35 1) (f3 : 0 ≤ 2 - 1 * gz h 35 0 - 1 * gz h 35 1) (f4 : 0 ≤ 0 + 1 * a1 - 2 * gz h 35 2) : MCal KX11_act yX11_act 0 0 [(2, ((4 : Nat) : Int)), (0, a0), (0, a1), (0, a2), (0, a3), (0, a4), (0, a5)] h (mRL (fun _ h2 => JJ zJ h2 ∧ Frm (kMd ct_X11_act_k1s2) h h2)) := by
  have z := JJ.call (q := (KX11_act, yX11_act, 11, 6, 0)) ok_X11_act_k1s2 (by decide +kernel) rfl (ρ := (fun v => match v with
    | 0 => a0
    | 1 => a1
    | 2 => a2
    | 3 => a3
    | 4 => a4
    | 5 => a5
    | 50 => gz h 35 0
    | 51 => gz h 35 1
    | 52 => gz h 35 2
    | _ => 0)) J (List.forall_mem_cons.mpr ⟨rfl, (List.forall_mem_cons.mpr ⟨rfl, (List.forall_mem_cons.mpr ⟨rfl, (fun e he => absurd he List.not_mem_nil)⟩)⟩)⟩) (by
      intro f hf
      have hf : f ∈ [(((-108) : Int), [((0 : Nat), (1 : Int))]), ((108 : Int), [((0 : Nat), ((-1) : Int))]), (((-2) : Int), [((50 : Nat), (1 : Int)), ((51 : Nat), (1 : Int))]), ((2 : Int), [((50 : Nat), ((-1) : Int)), ((51 : Nat), ((-1) : Int))]), ((0 : Int), [((1 : Nat), (1 : Int)), ((52 : Nat), ((-2) : Int))])] := hf
      simp only [List.mem_cons, List.not_mem_nil, or_false] at hf
      rcases hf with rfl | rfl | rfl | rfl | rfl <;> simp only [zv, zl] <;> omega)
  have e : (kA ct_X11_act_k1s2).map (fun q => (q.1, zv (fun v => match v with
    | 0 => a0
    | 1 => a1
    | 2 => a2
    | 3 => a3
    | 4 => a4
    | 5 => a5
    | 50 => gz h 35 0
    | 51 => gz h 35 1
    | 52 => gz h 35 2
    | _ => 0) q.2)) = [(2, ((4 : Nat) : Int)), (0, a0), (0, a1), (0, a2), (0, a3), (0, a4), (0, a5)] := by
    show [((2 : Nat), (4 : Int) + 0), (0, 0 + (1 * a0 + 0)), (0, 0 + (1 * a1 + 0)), (0, 0 + (1 * a2 + 0)), (0, 0 + (1 * a3 + 0)), (0, 0 + (1 * a4 + 0)), (0, 0 + (1 * a5 + 0))] = _
    simp only [show ∀ a : Int, (0 : Int) + (1 * a + 0) = a from fun a => by omega]
    rfl
  rw [e] at z
  refine MCal.mono ?_ z
  rintro ⟨o1, o2⟩ h' ⟨J', ρ', e1, e2, e3, e4, e5, e6, e7, e8, e9⟩
  have e2 : o1 = 1 ∧ o2 = (1, ρ' 200) := e2
  obtain ⟨rfl, rfl⟩ := e2
  exact ⟨rfl, rfl, J', e4⟩
set_option maxRecDepth 20000 in
theorem ap_X11_act_k1s3 {h : MH} (J : JJ zJ h) (a0 a1 a2 a3 a4 a5 : Int) (f0 : 0 ≤ -108 + 1 * a0) (f1 : 0 ≤ 108 - 1 * a0) (f2 : 0 ≤ -3 + 1 * gz h 35 0 + 1 * gz h 35 1) (f3 : 0 ≤ 3 - 1 * gz h 35 0 - 1 * gz h 35 1) (f4 : 0 ≤ 0 + 1 * a1 - 3 * gz h 35 2) : MCal KX11_act yX11_act 0 0 [(2, ((4 : Nat) : Int)), (0, a0), (0, a1), (0, a2), (0, a3), (0, a4), (0, a5)] h (mRL (fun _ h2 => JJ zJ h2 ∧ Frm (kMd ct_X11_act_k1s3) h h2)) := by
  have z := JJ.call (q := (KX11_act, yX11_act, 11, 6, 0)) ok_X11_act_k1s3 (by decide +kernel) rfl (ρ := (fun v => match v with
    | 0 => a0
    | 1 => a1
    | 2 => a2
    | 3 => a3
    | 4 => a4
    | 5 => a5
    | 50 => gz h 35 0
    | 51 => gz h 35 1
    | 52 => gz h 35 2
    | _ => 0)) J (List.forall_mem_cons.mpr ⟨rfl, (List.forall_mem_cons.mpr ⟨rfl, (List.forall_mem_cons.mpr ⟨rfl, (fun e he => absurd he List.not_mem_nil)⟩)⟩)⟩) (by
      intro f hf
      have hf : f ∈ [(((-108) : Int), [((0 : Nat), (1 : Int))]), ((108 : Int), [((0 : Nat), ((-1) : Int))]), (((-3) : Int), [((50 : Nat), (1 : Int)), ((51 : Nat), (1 : Int))]), ((3 : Int), [((50 : Nat), ((-1) : Int)), ((51 : Nat), ((-1) : Int))]), ((0 : Int), [((1 : Nat), (1 : Int)), ((52 : Nat), ((-3) : Int))])] := hf
      simp only [List.mem_cons, List.not_mem_nil, or_false] at hf
      rcases hf with rfl | rfl | rfl | rfl | rfl <;> simp only [zv, zl] <;> omega)
  have e : (kA ct_X11_act_k1s3).map (fun q => (q.1, zv (fun v => match v with
    | 0 => a0
    | 1 => a1
    | 2 => a2
    | 3 => a3
    | 4 => a4
    | 5 => a5
    | 50 => gz h 35 0
    | 51 => gz h 35 1
    | 52 => gz h 35 2
    | _ => 0) q.2)) = [(2, ((4 : Nat) : Int)), (0, a0), (0, a1), (0, a2), (0, a3), (0, a4), (0, a5)] := by
    show [((2 : Nat), (4 : Int) + 0), (0, 0 + (1 * a0 + 0)), (0, 0 + (1 * a1 + 0)), (0, 0 + (1 * a2 + 0)), (0, 0 + (1 * a3 + 0)), (0, 0 + (1 * a4 + 0)), (0, 0 + (1 * a5 + 0))] = _
    simp only [show ∀ a : Int, (0 : Int) + (1 * a + 0) = a from fun a => by omega]
    rfl
  rw [e] at z
  refine MCal.mono ?_ z
  rintro ⟨o1, o2⟩ h' ⟨J', ρ', e1, e2, e3, e4, e5, e6, e7, e8, e9⟩
  have e2 : o1 = 1 ∧ o2 = (1, ρ' 200) := e2
  obtain ⟨rfl, rfl⟩ := e2
  exact ⟨rfl, rfl, J', e4⟩
set_option maxRecDepth 20000 in
theorem ap_X11_act_k1s4 {h : MH} (J : JJ zJ h) (a0 a1 a2 a3 a4 a5 : Int) (f0 : 0 ≤ -108 + 1 * a0) (f1 : 0 ≤ 108 - 1 * a0) (f2 : 0 ≤ -4 + 1 * gz h 35 0 + 1 * gz h 35 1) (f3 : 0 ≤ 4 - 1 * gz h 35 0 - 1 * gz h 35 1) (f4 : 0 ≤ 0 + 1 * a1 - 4 * gz h 35 2) : MCal KX11_act yX11_act 0 0 [(2, ((4 : Nat) : Int)), (0, a0), (0, a1), (0, a2), (0, a3), (0, a4), (0, a5)] h (mRL (fun _ h2 => JJ zJ h2 ∧ Frm (kMd ct_X11_act_k1s4) h h2)) := by
  have z := JJ.call (q := (KX11_act, yX11_act, 11, 6, 0)) ok_X11_act_k1s4 (by decide +kernel) rfl (ρ := (fun v => match v with
    | 0 => a0
    | 1 => a1
    | 2 => a2
    | 3 => a3
    | 4 => a4
    | 5 => a5
    | 50 => gz h 35 0
    | 51 => gz h 35 1
    | 52 => gz h 35 2
    | _ => 0)) J (List.forall_mem_cons.mpr ⟨rfl, (List.forall_mem_cons.mpr ⟨rfl, (List.forall_mem_cons.mpr ⟨rfl, (fun e he => absurd he List.not_mem_nil)⟩)⟩)⟩) (by
      intro f hf
      have hf : f ∈ [(((-108) : Int), [((0 : Nat), (1 : Int))]), ((108 : Int), [((0 : Nat), ((-1) : Int))]), (((-4) : Int), [((50 : Nat), (1 : Int)), ((51 : Nat), (1 : Int))]), ((4 : Int), [((50 : Nat), ((-1) : Int)), ((51 : Nat), ((-1) : Int))]), ((0 : Int), [((1 : Nat), (1 : Int)), ((52 : Nat), ((-4) : Int))])] := hf
      simp only [List.mem_cons, List.not_mem_nil, or_false] at hf
      rcases hf with rfl | rfl | rfl | rfl | rfl <;> simp only [zv, zl] <;> omega)
  have e : (kA ct_X11_act_k1s4).map (fun q => (q.1, zv (fun v => match v with
    | 0 => a0
    | 1 => a1
    | 2 => a2
    | 3 => a3
    | 4 => a4
    | 5 => a5
    | 50 => gz h 35 0
    | 51 => gz h 35 1
    | 52 => gz h 35 2
    | _ => 0) q.2)) = [(2, ((4 : Nat) : Int)), (0, a0), (0, a1), (0, a2), (0, a3), (0, a4), (0, a5)] := by
    show [((2 : Nat), (4 : Int) + 0), (0, 0 + (1 * a0 + 0)), (0, 0 + (1 * a1 + 0)), (0, 0 + (1 * a2 + 0)), (0, 0 + (1 * a3 + 0)), (0, 0 + (1 * a4 + 0)), (0, 0 + (1 * a5 + 0))] = _
    simp only [show ∀ a : Int, (0 : Int) + (1 * a + 0) = a from fun a => by omega]
    rfl
  rw [e] at z
  refine MCal.mono ?_ z
  rintro ⟨o1, o2⟩ h' ⟨J', ρ', e1, e2, e3, e4, e5, e6, e7, e8, e9⟩
  have e2 : o1 = 1 ∧ o2 = (1, ρ' 200) := e2
  obtain ⟨rfl, rfl⟩ := e2
  exact ⟨rfl, rfl, J', e4⟩
set_option maxRecDepth 20000 in
theorem ap_X11_act_k1s5 {h : MH} (J : JJ zJ h) (a0 a1 a2 a3 a4 a5 : Int) (f0 : 0 ≤ -108 + 1 * a0) (f1 : 0 ≤ 108 - 1 * a0) (f2 : 0 ≤ -5 + 1 * gz h 35 0 + 1 * gz h 35 1) (f3 : 0 ≤ 5 - 1 * gz h 35 0 - 1 * gz h 35 1) (f4 : 0 ≤ 0 + 1 * a1 - 5 * gz h 35 2) : MCal KX11_act yX11_act 0 0 [(2, ((4 : Nat) : Int)), (0, a0), (0, a1), (0, a2), (0, a3), (0, a4), (0, a5)] h (mRL (fun _ h2 => JJ zJ h2 ∧ Frm (kMd ct_X11_act_k1s5) h h2)) := by
  have z := JJ.call (q := (KX11_act, yX11_act, 11, 6, 0)) ok_X11_act_k1s5 (by decide +kernel) rfl (ρ := (fun v => match v with
    | 0 => a0
    | 1 => a1
    | 2 => a2
    | 3 => a3
    | 4 => a4
    | 5 => a5
    | 50 => gz h 35 0
    | 51 => gz h 35 1
    | 52 => gz h 35 2
    | _ => 0)) J (List.forall_mem_cons.mpr ⟨rfl, (List.forall_mem_cons.mpr ⟨rfl, (List.forall_mem_cons.mpr ⟨rfl, (fun e he => absurd he List.not_mem_nil)⟩)⟩)⟩) (by
      intro f hf
      have hf : f ∈ [(((-108) : Int), [((0 : Nat), (1 : Int))]), ((108 : Int), [((0 : Nat), ((-1) : Int))]), (((-5) : Int), [((50 : Nat), (1 : Int)), ((51 : Nat), (1 : Int))]), ((5 : Int), [((50 : Nat), ((-1) : Int)), ((51 : Nat), ((-1) : Int))]), ((0 : Int), [((1 : Nat), (1 : Int)), ((52 : Nat), ((-5) : Int))])] := hf
      simp only [List.mem_cons, List.not_mem_nil, or_false] at hf
      rcases hf with rfl | rfl | rfl | rfl | rfl <;> simp only [zv, zl] <;> omega)
  have e : (kA ct_X11_act_k1s5).map (fun q => (q.1, zv (fun v => match v with
    | 0 => a0
    | 1 => a1
    | 2 => a2
    | 3 => a3
    | 4 => a4
    | 5 => a5
    | 50 => gz h 35 0
    | 51 => gz h 35 1
    | 52 => gz h 35 2
    | _ => 0) q.2)) = [(2, ((4 : Nat) : Int)), (0, a0), (0, a1), (0, a2), (0, a3), (0, a4), (0, a5)] := by
    show [((2 : Nat), (4 : Int) + 0), (0, 0 + (1 * a0 + 0)), (0, 0 + (1 * a1 + 0)), (0, 0 + (1 * a2 + 0)), (0, 0 + (1 * a3 + 0)), (0, 0 + (1 * a4 + 0)), (0, 0 + (1 * a5 + 0))] = _
    simp only [show ∀ a : Int, (0 : Int) + (1 * a + 0) = a from fun a => by omega]
    rfl
  rw [e] at z
  refine MCal.mono ?_ z
  rintro ⟨o1, o2⟩ h' ⟨J', ρ', e1, e2, e3, e4, e5, e6, e7, e8, e9⟩
  have e2 : o1 = 1 ∧ o2 = (1, ρ' 200) := e2
  obtain ⟨rfl, rfl⟩ := e2
  exact ⟨rfl, rfl, J', e4⟩
set_option maxRecDepth 20000 in
theorem ap_X11_act_k1s6 {h : MH} (J : JJ zJ h) (a0 a1 a2 a3 a4 a5 : Int) (f0 : 0 ≤ -108 + 1 * a0) (f1 : 0 ≤ 108 - 1 * a0) (f2 : 0 ≤ -6 + 1 * gz h 35 0 + 1 * gz h 35 1) (f3 : 0 ≤ 6 - 1 * gz h 35 0 - 1 * gz h 35 1) (f4 : 0 ≤ 0 + 1 * a1 - 6 * gz h 35 2) : MCal KX11_act yX11_act 0 0 [(2, ((4 : Nat) : Int)), (0, a0), (0, a1), (0, a2), (0, a3), (0, a4), (0, a5)] h (mRL (fun _ h2 => JJ zJ h2 ∧ Frm (kMd ct_X11_act_k1s6) h h2)) := by
  have z := JJ.call (q := (KX11_act, yX11_act, 11, 6, 0)) ok_X11_act_k1s6 (by decide +kernel) rfl (ρ := (fun v => match v with
    | 0 => a0
    | 1 => a1
    | 2 => a2
    | 3 => a3
    | 4 => a4
    | 5 => a5
    | 50 => gz h 35 0
    | 51 => gz h 35 1
    | 52 => gz h 35 2
    | _ => 0)) J (List.forall_mem_cons.mpr ⟨rfl, (List.forall_mem_cons.mpr ⟨rfl, (List.forall_mem_cons.mpr ⟨rfl, (fun e he => absurd he List.not_mem_nil)⟩)⟩)⟩) (by
      intro f hf
      have hf : f ∈ [(((-108) : Int), [((0 : Nat), (1 : Int))]), ((108 : Int), [((0 : Nat), ((-1) : Int))]), (((-6) : Int), [((50 : Nat), (1 : Int)), ((51 : Nat), (1 : Int))]), ((6 : Int), [((50 : Nat), ((-1) : Int)), ((51 : Nat), ((-1) : Int))]), ((0 : Int), [((1 : Nat), (1 : Int)), ((52 : Nat), ((-6) : Int))])] := hf
      simp only [List.mem_cons, List.not_mem_nil, or_false] at hf
      rcases hf with rfl | rfl | rfl | rfl | rfl <;> simp only [zv, zl] <;> omega)
  have e : (kA ct_X11_act_k1s6).map (fun q => (q.1, zv (fun v => match v with
    | 0 => a0
    | 1 => a1
    | 2 => a2
    | 3 => a3
    | 4 => a4
    | 5 => a5
    | 50 => gz h 35 0
    | 51 => gz h 35 1
    | 52 => gz h 35 2
    | _ => 0) q.2)) = [(2, ((4 : Nat) : Int)), (0, a0), (0, a1), (0, a2), (0, a3), (0, a4), (0, a5)] := by
    show [((2 : Nat), (4 : Int) + 0), (0, 0 + (1 * a0 + 0)), (0, 0 + (1 * a1 + 0)), (0, 0 + (1 * a2 + 0)), (0, 0 + (1 * a3 + 0)), (0, 0 + (1 * a4 + 0)), (0, 0 + (1 * a5 + 0))] = _
    simp only [show ∀ a : Int, (0 : Int) + (1 * a + 0) = a from fun a => by omega]
    rfl
  rw [e] at z
  refine MCal.mono ?_ z
  rintro ⟨o1, o2⟩ h' ⟨J', ρ', e1, e2, e3, e4, e5, e6, e7, e8, e9⟩
  have e2 : o1 = 1 ∧ o2 = (1, ρ' 200) := e2
  obtain ⟨rfl, rfl⟩ := e2
  exact ⟨rfl, rfl, J', e4⟩
set_option maxRecDepth 20000 in
theorem ap_X11_act_k1s7 {h : MH} (J : JJ zJ h) (a0 a1 a2 a3 a4 a5 : Int) (f0 : 0 ≤ -108 + 1 * a0) (f1 : 0 ≤ 108 - 1 * a0) (f2 : 0 ≤ -7 + 1 * gz h 35 0 + 1 * gz h 35 1) (f3 : 0 ≤ 7 - 1 * gz h 35 0 - 1 * gz h 35 1) (f4 : 0 ≤ 0 + 1 * a1 - 7 * gz h 35 2) : MCal KX11_act yX11_act 0 0 [(2, ((4 : Nat) : Int)), (0, a0), (0, a1), (0, a2), (0, a3), (0, a4), (0, a5)] h (mRL (fun _ h2 => JJ zJ h2 ∧ Frm (kMd ct_X11_act_k1s7) h h2)) := by
  have z := JJ.call (q := (KX11_act, yX11_act, 11, 6, 0)) ok_X11_act_k1s7 (by decide +kernel) rfl (ρ := (fun v => match v with
    | 0 => a0
    | 1 => a1
    | 2 => a2
    | 3 => a3
    | 4 => a4
    | 5 => a5
    | 50 => gz h 35 0
    | 51 => gz h 35 1
    | 52 => gz h 35 2
    | _ => 0)) J (List.forall_mem_cons.mpr ⟨rfl, (List.forall_mem_cons.mpr ⟨rfl, (List.forall_mem_cons.mpr ⟨rfl, (fun e he => absurd he List.not_mem_nil)⟩)⟩)⟩) (by
      intro f hf
      have hf : f ∈ [(((-108) : Int), [((0 : Nat), (1 : Int))]), ((108 : Int), [((0 : Nat), ((-1) : Int))]), (((-7) : Int), [((50 : Nat), (1 : Int)), ((51 : Nat), (1 : Int))]), ((7 : Int), [((50 : Nat), ((-1) : Int)), ((51 : Nat), ((-1) : Int))]), ((0 : Int), [((1 : Nat), (1 : Int)), ((52 : Nat), ((-7) : Int))])] := hf
      simp only [List.mem_cons, List.not_mem_nil, or_false] at hf
      rcases hf with rfl | rfl | rfl | rfl | rfl <;> simp only [zv, zl] <;> omega)
  have e : (kA ct_X11_act_k1s7).map (fun q => (q.1, zv (fun v => match v with
    | 0 => a0
    | 1 => a1
    | 2 => a2
    | 3 => a3
    | 4 => a4
    | 5 => a5
    | 50 => gz h 35 0
    | 51 => gz h 35 1
    | 52 => gz h 35 2
    | _ => 0) q.2)) = [(2, ((4 : Nat) : Int)), (0, a0), (0, a1), (0, a2), (0, a3), (0, a4), (0, a5)] := by
    show [((2 : Nat), (4 : Int) + 0), (0, 0 + (1 * a0 + 0)), (0, 0 + (1 * a1 + 0)), (0, 0 + (1 * a2 + 0)), (0, 0 + (1 * a3 + 0)), (0, 0 + (1 * a4 + 0)), (0, 0 + (1 * a5 + 0))] = _
    simp only [show ∀ a : Int, (0 : Int) + (1 * a + 0) = a from fun a => by omega]
    rfl
  rw [e] at z
  refine MCal.mono ?_ z
  rintro ⟨o1, o2⟩ h' ⟨J', ρ', e1, e2, e3, e4, e5, e6, e7, e8, e9⟩
  have e2 : o1 = 1 ∧ o2 = (1, ρ' 200) := e2
  obtain ⟨rfl, rfl⟩ := e2
  exact ⟨rfl, rfl, J', e4⟩
set_option maxRecDepth 20000 in
theorem ap_X11_act_k1s8 {h : MH} (J : JJ zJ h) (a0 a1 a2 a3 a4 a5 : Int) (f0 : 0 ≤ -108 + 1 * a0) (f1 : 0 ≤ 108 - 1 * a0) (f2 : 0 ≤ -8 + 1 * gz h 35 0 + 1 * gz h 35 1) (f3 : 0 ≤ 8 - 1 * gz h 35 0 - 1 * gz h 35 1) (f4 : 0 ≤ 0 + 1 * a1 - 8 * gz h 35 2) : MCal KX11_act yX11_act 0 0 [(2, ((4 : Nat) : Int)), (0, a0), (0, a1), (0, a2), (0, a3), (0, a4), (0, a5)] h (mRL (fun _ h2 => JJ zJ h2 ∧ Frm (kMd ct_X11_act_k1s8) h h2)) := by
  have z := JJ.call (q := (KX11_act, yX11_act, 11, 6, 0)) ok_X11_act_k1s8 (by decide +kernel) rfl (ρ := (fun v => match v with
    | 0 => a0
    | 1 => a1
    | 2 => a2
    | 3 => a3
    | 4 => a4
    | 5 => a5
    | 50 => gz h 35 0
    | 51 => gz h 35 1
    | 52 => gz h 35 2
    | _ => 0)) J (List.forall_mem_cons.mpr ⟨rfl, (List.forall_mem_cons.mpr ⟨rfl, (List.forall_mem_cons.mpr ⟨rfl, (fun e he => absurd he List.not_mem_nil)⟩)⟩)⟩) (by
      intro f hf
      have hf : f ∈ [(((-108) : Int), [((0 : Nat), (1 : Int))]), ((108 : Int), [((0 : Nat), ((-1) : Int))]), (((-8) : Int), [((50 : Nat), (1 : Int)), ((51 : Nat), (1 : Int))]), ((8 : Int), [((50 : Nat), ((-1) : Int)), ((51 : Nat), ((-1) : Int))]), ((0 : Int), [((1 : Nat), (1 : Int)), ((52 : Nat), ((-8) : Int))])] := hf
      simp only [List.mem_cons, List.not_mem_nil, or_false] at hf
      rcases hf with rfl | rfl | rfl | rfl | rfl <;> simp only [zv, zl] <;> omega)
  have e : (kA ct_X11_act_k1s8).map (fun q => (q.1, zv (fun v => match v with
    | 0 => a0
    | 1 => a1
    | 2 => a2
    | 3 => a3
    | 4 => a4
    | 5 => a5
    | 50 => gz h 35 0
    | 51 => gz h 35 1
    | 52 => gz h 35 2
    | _ => 0) q.2)) = [(2, ((4 : Nat) : Int)), (0, a0), (0, a1), (0, a2), (0, a3), (0, a4), (0, a5)] := by
    show [((2 : Nat), (4 : Int) + 0), (0, 0 + (1 * a0 + 0)), (0, 0 + (1 * a1 + 0)), (0, 0 + (1 * a2 + 0)), (0, 0 + (1 * a3 + 0)), (0, 0 + (1 * a4 + 0)), (0, 0 + (1 * a5 + 0))] = _
    simp only [show ∀ a : Int, (0 : Int) + (1 * a + 0) = a from fun a => by omega]
    rfl
  rw [e] at z
  refine MCal.mono ?_ z
  rintro ⟨o1, o2⟩ h' ⟨J', ρ', e1, e2, e3, e4, e5, e6, e7, e8, e9⟩
  have e2 : o1 = 1 ∧ o2 = (1, ρ' 200) := e2
  obtain ⟨rfl, rfl⟩ := e2
  exact ⟨rfl, rfl, J', e4⟩
set_option maxRecDepth 20000 in
theorem ap_X11_act_k1s9 {h : MH} (J : JJ zJ h) (a0 a1 a2 a3 a4 a5 : Int) (f0 : 0 ≤ -108 + 1 * a0) (f1 : 0 ≤ 108 - 1 * a0) (f2 : 0 ≤ -9 + 1 * gz h 35 0 + 1 * gz h 35 1) (f3 : 0 ≤ 9 - 1 * gz h 35 0 - 1 * gz h 35 1) (f4 : 0 ≤ 0 + 1 * a1 - 9 * gz h 35 2) : MCal KX11_act yX11_act 0 0 [(2, ((4 : Nat) : Int)), (0, a0), (0, a1), (0, a2), (0, a3), (0, a4), (0, a5)] h (mRL (fun _ h2 => JJ zJ h2 ∧ Frm (kMd ct_X11_act_k1s9) h h2)) := by
  have z := JJ.call (q := (KX11_act, yX11_act, 11, 6, 0)) ok_X11_act_k1s9 (by decide +kernel) rfl (ρ := (fun v => match v with
    | 0 => a0
    | 1 => a1
    | 2 => a2
    | 3 => a3
    | 4 => a4
    | 5 => a5
    | 50 => gz h 35 0
    | 51 => gz h 35 1
    | 52 => gz h 35 2
    | _ => 0)) J (List.forall_mem_cons.mpr ⟨rfl, (List.forall_mem_cons.mpr ⟨rfl, (List.forall_mem_cons.mpr ⟨rfl, (fun e he => absurd he List.not_mem_nil)⟩)⟩)⟩) (by
      intro f hf
      have hf : f ∈ [(((-108) : Int), [((0 : Nat), (1 : Int))]), ((108 : Int), [((0 : Nat), ((-1) : Int))]), (((-9) : Int), [((50 : Nat), (1 : Int)), ((51 : Nat), (1 : Int))]), ((9 : Int), [((50 : Nat), ((-1) : Int)), ((51 : Nat), ((-1) : Int))]), ((0 : Int), [((1 : Nat), (1 : Int)), ((52 : Nat), ((-9) : Int))])] := hf
      simp only [List.mem_cons, List.not_mem_nil, or_false] at hf
      rcases hf with rfl | rfl | rfl | rfl | rfl <;> simp only [zv, zl] <;> omega)
  have e : (kA ct_X11_act_k1s9).map (fun q => (q.1, zv (fun v => match v with
    | 0 => a0
    | 1 => a1
    | 2 => a2
    | 3 => a3
    | 4 => a4
    | 5 => a5
    | 50 => gz h 35 0
    | 51 => gz h 35 1
    | 52 => gz h 35 2
    | _ => 0) q.2)) = [(2, ((4 : Nat) : Int)), (0, a0), (0, a1), (0, a2), (0, a3), (0, a4), (0, a5)] := by
    show [((2 : Nat), (4 : Int) + 0), (0, 0 + (1 * a0 + 0)), (0, 0 + (1 * a1 + 0)), (0, 0 + (1 * a2 + 0)), (0, 0 + (1 * a3 + 0)), (0, 0 + (1 * a4 + 0)), (0, 0 + (1 * a5 + 0))] = _
    simp only [show ∀ a : Int, (0 : Int) + (1 * a + 0) = a from fun a => by omega]
    rfl
  rw [e] at z
  refine MCal.mono ?_ z
  rintro ⟨o1, o2⟩ h' ⟨J', ρ', e1, e2, e3, e4, e5, e6, e7, e8, e9⟩
  have e2 : o1 = 1 ∧ o2 = (1, ρ' 200) := e2
  obtain ⟨rfl, rfl⟩ := e2
  exact ⟨rfl, rfl, J', e4⟩
set_option maxRecDepth 20000 in
theorem ap_X11_act_k2hi {h : MH} (J : JJ zJ h) (a0 a1 a2 a3 a4 a5 : Int) (f0 : 0 ≤ -205 + 1 * a0) (f1 : 0 ≤ 299 - 1 * a0) : MCal KX11_act yX11_act 0 0 [(2, ((4 : Nat) : Int)), (0, a0), (0, a1), (0, a2), (0, a3), (0, a4), (0, a5)] h (mRL (fun _ h2 => JJ zJ h2 ∧ Frm (kMd ct_X11_act_k2hi) h h2)) := by
  have z := JJ.call (q := (KX11_act, yX11_act, 11, 6, 0)) ok_X11_act_k2hi (by decide +kernel) rfl (ρ := (fun v => match v with
    | 0 => a0
    | 1 => a1
    | 2 => a2
    | 3 => a3
    | 4 => a4
    | 5 => a5
    | _ => 0)) J (fun e he => absurd he List.not_mem_nil) (by
      intro f hf
      have hf : f ∈ [(((-205) : Int), [((0 : Nat), (1 : Int))]), ((299 : Int), [((0 : Nat), ((-1) : Int))])] := hf
      simp only [List.mem_cons, List.not_mem_nil, or_false] at hf
      rcases hf with rfl | rfl <;> simp only [zv, zl] <;> omega)
  have e : (kA ct_X11_act_k2hi).map (fun q => (q.1, zv (fun v => match v with
    | 0 => a0
    | 1 => a1
    | 2 => a2
    | 3 => a3
    | 4 => a4
    | 5 => a5
    | _ => 0) q.2)) = [(2, ((4 : Nat) : Int)), (0, a0), (0, a1), (0, a2), (0, a3), (0, a4), (0, a5)] := by
    show [((2 : Nat), (4 : Int) + 0), (0, 0 + (1 * a0 + 0)), (0, 0 + (1 * a1 + 0)), (0, 0 + (1 * a2 + 0)), (0, 0 + (1 * a3 + 0)), (0, 0 + (1 * a4 + 0)), (0, 0 + (1 * a5 + 0))] = _
    simp only [show ∀ a : Int, (0 : Int) + (1 * a + 0) = a from fun a => by omega]
    rfl
  rw [e] at z
  refine MCal.mono ?_ z
  rintro ⟨o1, o2⟩ h' ⟨J', ρ', e1, e2, e3, e4, e5, e6, e7, e8, e9⟩
  have e2 : o1 = 1 ∧ o2 = (1, ρ' 200) := e2
  obtain ⟨rfl, rfl⟩ := e2
  exact ⟨rfl, rfl, J', e4⟩
set_option maxRecDepth 20000 in
theorem ap_X11_act_k2lo {h : MH} (J : JJ zJ h) (a0 a1 a2 a3 a4 a5 : Int) (f0 : 0 ≤ -200 + 1 * a0) (f1 : 0 ≤ 201 - 1 * a0) : MCal KX11_act yX11_act 0 0 [(2, ((4 : Nat) : Int)), (0, a0), (0, a1), (0, a2), (0, a3), (0, a4), (0, a5)] h (mRL (fun _ h2 => JJ zJ h2 ∧ Frm (kMd ct_X11_act_k2lo) h h2)) := by
  have z := JJ.call (q := (KX11_act, yX11_act, 11, 6, 0)) ok_X11_act_k2lo (by decide +kernel) rfl (ρ := (fun v => match v with
    | 0 => a0
    | 1 => a1
    | 2 => a2
    | 3 => a3
    | 4 => a4
    | 5 => a5
    | _ => 0)) J (fun e he => absurd he List.not_mem_nil) (by
      intro f hf
      have hf : f ∈ [(((-200) : Int), [((0 : Nat), (1 : Int))]), ((201 : Int), [((0 : Nat), ((-1) : Int))])] := hf
      simp only [List.mem_cons, List.not_mem_nil, or_false] at hf
      rcases hf with rfl | rfl <;> simp only [zv, zl] <;> omega)
  have e : (kA ct_X11_act_k2lo).map (fun q => (q.1, zv (fun v => match v with
    | 0 => a0
    | 1 => a1
    | 2 => a2
    | 3 => a3
    | 4 => a4
    | 5 => a5
    | _ => 0) q.2)) = [(2, ((4 : Nat) : Int)), (0, a0), (0, a1), (0, a2), (0, a3), (0, a4), (0, a5)] := by
    show [((2 : Nat), (4 : Int) + 0), (0, 0 + (1 * a0 + 0)), (0, 0 + (1 * a1 + 0)), (0, 0 + (1 * a2 + 0)), (0, 0 + (1 * a3 + 0)), (0, 0 + (1 * a4 + 0)), (0, 0 + (1 * a5 + 0))] = _
    simp only [show ∀ a : Int, (0 : Int) + (1 * a + 0) = a from fun a => by omega]
    rfl
  rw [e] at z
  refine MCal.mono ?_ z
  rintro ⟨o1, o2⟩ h' ⟨J', ρ', e1, e2, e3, e4, e5, e6, e7, e8, e9⟩
  have e2 : o1 = 1 ∧ o2 = (1, ρ' 200) := e2
  obtain ⟨rfl, rfl⟩ := e2
  exact ⟨rfl, rfl, J', e4⟩
set_option maxRecDepth 20000 in
theorem ap_X11_act_k2m2 {h : MH} (J : JJ zJ h) (a0 a1 a2 a3 a4 a5 : Int) (f0 : 0 ≤ -202 + 1 * a0) (f1 : 0 ≤ 202 - 1 * a0) (f2 : 0 ≤ 0 + 1 * a1) (f3 : 0 ≤ -1 - 1 * a1 + 1 * gz h 161 0) : MCal KX11_act yX11_act 0 0 [(2, ((4 : Nat) : Int)), (0, a0), (0, a1), (0, a2), (0, a3), (0, a4), (0, a5)] h (mRL (fun _ h2 => JJ zJ h2 ∧ Frm (kMd ct_X11_act_k2m2) h h2)) := by
  have z := JJ.call (q := (KX11_act, yX11_act, 11, 6, 0)) ok_X11_act_k2m2 (by decide +kernel) rfl (ρ := (fun v => match v with
    | 0 => a0
    | 1 => a1
    | 2 => a2
    | 3 => a3
    | 4 => a4
    | 5 => a5
    | 50 => gz h 161 0
    | _ => 0)) J (List.forall_mem_cons.mpr ⟨rfl, (fun e he => absurd he List.not_mem_nil)⟩) (by
      intro f hf
      have hf : f ∈ [(((-202) : Int), [((0 : Nat), (1 : Int))]), ((202 : Int), [((0 : Nat), ((-1) : Int))]), ((0 : Int), [((1 : Nat), (1 : Int))]), (((-1) : Int), [((1 : Nat), ((-1) : Int)), ((50 : Nat), (1 : Int))])] := hf
      simp only [List.mem_cons, List.not_mem_nil, or_false] at hf
      rcases hf with rfl | rfl | rfl | rfl <;> simp only [zv, zl] <;> omega)
  have e : (kA ct_X11_act_k2m2).map (fun q => (q.1, zv (fun v => match v with
    | 0 => a0
    | 1 => a1
    | 2 => a2
    | 3 => a3
    | 4 => a4
    | 5 => a5
    | 50 => gz h 161 0
    | _ => 0) q.2)) = [(2, ((4 : Nat) : Int)), (0, a0), (0, a1), (0, a2), (0, a3), (0, a4), (0, a5)] := by
    show [((2 : Nat), (4 : Int) + 0), (0, 0 + (1 * a0 + 0)), (0, 0 + (1 * a1 + 0)), (0, 0 + (1 * a2 + 0)), (0, 0 + (1 * a3 + 0)), (0, 0 + (1 * a4 + 0)), (0, 0 + (1 * a5 + 0))] = _
    simp only [show ∀ a : Int, (0 : Int) + (1 * a + 0) = a from fun a => by omega]
    rfl
  rw [e] at z
  refine MCal.mono ?_ z
  rintro ⟨o1, o2⟩ h' ⟨J', ρ', e1, e2, e3, e4, e5, e6, e7, e8, e9⟩
  have e2 : o1 = 1 ∧ o2 = (1, ρ' 200) := e2
  obtain ⟨rfl, rfl⟩ := e2
  exact ⟨rfl, rfl, J', e4⟩
set_option maxRecDepth 20000 in
theorem ap_X11_act_k2m3 {h : MH} (J : JJ zJ h) (a0 a1 a2 a3 a4 a5 : Int) (f0 : 0 ≤ -203 + 1 * a0) (f1 : 0 ≤ 203 - 1 * a0) (f2 : 0 ≤ 0 + 1 * a1) (f3 : 0 ≤ 0 - 1 * a1 + 1 * gz h 161 0) : MCal KX11_act yX11_act 0 0 [(2, ((4 : Nat) : Int)), (0, a0), (0, a1), (0, a2), (0, a3), (0, a4), (0, a5)] h (mRL (fun _ h2 => JJ zJ h2 ∧ Frm (kMd ct_X11_act_k2m3) h h2)) := by
  have z := JJ.call (q := (KX11_act, yX11_act, 11, 6, 0)) ok_X11_act_k2m3 (by decide +kernel) rfl (ρ := (fun v => match v with
    | 0 => a0
    | 1 => a1
    | 2 => a2
    | 3 => a3
    | 4 => a4
    | 5 => a5
    | 50 => gz h 161 0
    | _ => 0)) J (List.forall_mem_cons.mpr ⟨rfl, (fun e he => absurd he List.not_mem_nil)⟩) (by
      intro f hf
      have hf : f ∈ [(((-203) : Int), [((0 : Nat), (1 : Int))]), ((203 : Int), [((0 : Nat), ((-1) : Int))]), ((0 : Int), [((1 : Nat), (1 : Int))]), ((0 : Int), [((1 : Nat), ((-1) : Int)), ((50 : Nat), (1 : Int))])] := hf
      simp only [List.mem_cons, List.not_mem_nil, or_false] at hf
      rcases hf with rfl | rfl | rfl | rfl <;> simp only [zv, zl] <;> omega)
  have e : (kA ct_X11_act_k2m3).map (fun q => (q.1, zv (fun v => match v with
    | 0 => a0
    | 1 => a1
    | 2 => a2
    | 3 => a3
    | 4 => a4
    | 5 => a5
    | 50 => gz h 161 0
    | _ => 0) q.2)) = [(2, ((4 : Nat) : Int)), (0, a0), (0, a1), (0, a2), (0, a3), (0, a4), (0, a5)] := by
    show [((2 : Nat), (4 : Int) + 0), (0, 0 + (1 * a0 + 0)), (0, 0 + (1 * a1 + 0)), (0, 0 + (1 * a2 + 0)), (0, 0 + (1 * a3 + 0)), (0, 0 + (1 * a4 + 0)), (0, 0 + (1 * a5 + 0))] = _
    simp only [show ∀ a : Int, (0 : Int) + (1 * a + 0) = a from fun a => by omega]
    rfl
  rw [e] at z
  refine MCal.mono ?_ z
  rintro ⟨o1, o2⟩ h' ⟨J', ρ', e1, e2, e3, e4, e5, e6, e7, e8, e9⟩
  have e2 : o1 = 1 ∧ o2 = (1, ρ' 200) := e2
  obtain ⟨rfl, rfl⟩ := e2
  exact ⟨rfl, rfl, J', e4⟩
set_option maxRecDepth 20000 in
theorem ap_X11_act_k2m4 {h : MH} (J : JJ zJ h) (a0 a1 a2 a3 a4 a5 : Int) (f0 : 0 ≤ -204 + 1 * a0) (f1 : 0 ≤ 204 - 1 * a0) (f2 : 0 ≤ 0 + 1 * a1) (f3 : 0 ≤ -1 - 1 * a1 + 1 * gz h 161 0) : MCal KX11_act yX11_act 0 0 [(2, ((4 : Nat) : Int)), (0, a0), (0, a1), (0, a2), (0, a3), (0, a4), (0, a5)] h (mRL (fun _ h2 => JJ zJ h2 ∧ Frm (kMd ct_X11_act_k2m4) h h2)) := by
  have z := JJ.call (q := (KX11_act, yX11_act, 11, 6, 0)) ok_X11_act_k2m4 (by decide +kernel) rfl (ρ := (fun v => match v with
    | 0 => a0
    | 1 => a1
    | 2 => a2
    | 3 => a3
    | 4 => a4
    | 5 => a5
    | 50 => gz h 161 0
    | _ => 0)) J (List.forall_mem_cons.mpr ⟨rfl, (fun e he => absurd he List.not_mem_nil)⟩) (by
      intro f hf
      have hf : f ∈ [(((-204) : Int), [((0 : Nat), (1 : Int))]), ((204 : Int), [((0 : Nat), ((-1) : Int))]), ((0 : Int), [((1 : Nat), (1 : Int))]), (((-1) : Int), [((1 : Nat), ((-1) : Int)), ((50 : Nat), (1 : Int))])] := hf
      simp only [List.mem_cons, List.not_mem_nil, or_false] at hf
      rcases hf with rfl | rfl | rfl | rfl <;> simp only [zv, zl] <;> omega)
  have e : (kA ct_X11_act_k2m4).map (fun q => (q.1, zv (fun v => match v with
    | 0 => a0
    | 1 => a1
    | 2 => a2
    | 3 => a3
    | 4 => a4
    | 5 => a5
    | 50 => gz h 161 0
    | _ => 0) q.2)) = [(2, ((4 : Nat) : Int)), (0, a0), (0, a1), (0, a2), (0, a3), (0, a4), (0, a5)] := by
    show [((2 : Nat), (4 : Int) + 0), (0, 0 + (1 * a0 + 0)), (0, 0 + (1 * a1 + 0)), (0, 0 + (1 * a2 + 0)), (0, 0 + (1 * a3 + 0)), (0, 0 + (1 * a4 + 0)), (0, 0 + (1 * a5 + 0))] = _
    simp only [show ∀ a : Int, (0 : Int) + (1 * a + 0) = a from fun a => by omega]
    rfl
  rw [e] at z
  refine MCal.mono ?_ z
  rintro ⟨o1, o2⟩ h' ⟨J', ρ', e1, e2, e3, e4, e5, e6, e7, e8, e9⟩
  have e2 : o1 = 1 ∧ o2 = (1, ρ' 200) := e2
  obtain ⟨rfl, rfl⟩ := e2
  exact ⟨rfl, rfl, J', e4⟩
set_option maxRecDepth 20000 in
theorem ap_X11_act_k3 {h : MH} (J : JJ zJ h) (a0 a1 a2 a3 a4 a5 : Int) (f0 : 0 ≤ -300 + 1 * a0) (f1 : 0 ≤ 399 - 1 * a0) : MCal KX11_act yX11_act 0 0 [(2, ((4 : Nat) : Int)), (0, a0), (0, a1), (0, a2), (0, a3), (0, a4), (0, a5)] h (mRL (fun _ h2 => JJ zJ h2 ∧ Frm (kMd ct_X11_act_k3) h h2)) := by
  have z := JJ.call (q := (KX11_act, yX11_act, 11, 6, 0)) ok_X11_act_k3 (by decide +kernel) rfl (ρ := (fun v => match v with
    | 0 => a0
    | 1 => a1
    | 2 => a2
    | 3 => a3
    | 4 => a4
    | 5 => a5
    | _ => 0)) J (fun e he => absurd he List.not_mem_nil) (by
      intro f hf
      have hf : f ∈ [(((-300) : Int), [((0 : Nat), (1 : Int))]), ((399 : Int), [((0 : Nat), ((-1) : Int))])] := hf
      simp only [List.mem_cons, List.not_mem_nil, or_false] at hf
      rcases hf with rfl | rfl <;> simp only [zv, zl] <;> omega)
  have e : (kA ct_X11_act_k3).map (fun q => (q.1, zv (fun v => match v with
    | 0 => a0
    | 1 => a1
    | 2 => a2
    | 3 => a3
    | 4 => a4
    | 5 => a5
    | _ => 0) q.2)) = [(2, ((4 : Nat) : Int)), (0, a0), (0, a1), (0, a2), (0, a3), (0, a4), (0, a5)] := by
    show [((2 : Nat), (4 : Int) + 0), (0, 0 + (1 * a0 + 0)), (0, 0 + (1 * a1 + 0)), (0, 0 + (1 * a2 + 0)), (0, 0 + (1 * a3 + 0)), (0, 0 + (1 * a4 + 0)), (0, 0 + (1 * a5 + 0))] = _
    simp only [show ∀ a : Int, (0 : Int) + (1 * a + 0) = a from fun a => by omega]
    rfl
  rw [e] at z
  refine MCal.mono ?_ z
  rintro ⟨o1, o2⟩ h' ⟨J', ρ', e1, e2, e3, e4, e5, e6, e7, e8, e9⟩
  have e2 : o1 = 1 ∧ o2 = (1, ρ' 200) := e2
  obtain ⟨rfl, rfl⟩ := e2
  exact ⟨rfl, rfl, J', e4⟩
set_option maxRecDepth 20000 in
theorem ap_X11_act_k4hi {h : MH} (J : JJ zJ h) (a0 a1 a2 a3 a4 a5 : Int) (f0 : 0 ≤ -407 + 1 * a0) (f1 : 0 ≤ 499 - 1 * a0) : MCal KX11_act yX11_act 0 0 [(2, ((4 : Nat) : Int)), (0, a0), (0, a1), (0, a2), (0, a3), (0, a4), (0, a5)] h (mRL (fun _ h2 => JJ zJ h2 ∧ Frm (kMd ct_X11_act_k4hi) h h2)) := by
  have z := JJ.call (q := (KX11_act, yX11_act, 11, 6, 0)) ok_X11_act_k4hi (by decide +kernel) rfl (ρ := (fun v => match v with
    | 0 => a0
    | 1 => a1
    | 2 => a2
    | 3 => a3
    | 4 => a4
    | 5 => a5
    | _ => 0)) J (fun e he => absurd he List.not_mem_nil) (by
      intro f hf
      have hf : f ∈ [(((-407) : Int), [((0 : Nat), (1 : Int))]), ((499 : Int), [((0 : Nat), ((-1) : Int))])] := hf
      simp only [List.mem_cons, List.not_mem_nil, or_false] at hf
      rcases hf with rfl | rfl <;> simp only [zv, zl] <;> omega)
  have e : (kA ct_X11_act_k4hi).map (fun q => (q.1, zv (fun v => match v with
    | 0 => a0
    | 1 => a1
    | 2 => a2
    | 3 => a3
    | 4 => a4
    | 5 => a5
    | _ => 0) q.2)) = [(2, ((4 : Nat) : Int)), (0, a0), (0, a1), (0, a2), (0, a3), (0, a4), (0, a5)] := by
    show [((2 : Nat), (4 : Int) + 0), (0, 0 + (1 * a0 + 0)), (0, 0 + (1 * a1 + 0)), (0, 0 + (1 * a2 + 0)), (0, 0 + (1 * a3 + 0)), (0, 0 + (1 * a4 + 0)), (0, 0 + (1 * a5 + 0))] = _
    simp only [show ∀ a : Int, (0 : Int) + (1 * a + 0) = a from fun a => by omega]
    rfl
  rw [e] at z
  refine MCal.mono ?_ z
  rintro ⟨o1, o2⟩ h' ⟨J', ρ', e1, e2, e3, e4, e5, e6, e7, e8, e9⟩
  have e2 : o1 = 1 ∧ o2 = (1, ρ' 200) := e2
  obtain ⟨rfl, rfl⟩ := e2
  exact ⟨rfl, rfl, J', e4⟩
set_option maxRecDepth 20000 in
theorem ap_X11_act_k4lo {h : MH} (J : JJ zJ h) (a0 a1 a2 a3 a4 a5 : Int) (f0 : 0 ≤ -400 + 1 * a0) (f1 : 0 ≤ 405 - 1 * a0) : MCal KX11_act yX11_act 0 0 [(2, ((4 : Nat) : Int)), (0, a0), (0, a1), (0, a2), (0, a3), (0, a4), (0, a5)] h (mRL (fun _ h2 => JJ zJ h2 ∧ Frm (kMd ct_X11_act_k4lo) h h2)) := by
  have z := JJ.call (q := (KX11_act, yX11_act, 11, 6, 0)) ok_X11_act_k4lo (by decide +kernel) rfl (ρ := (fun v => match v with
    | 0 => a0
    | 1 => a1
    | 2 => a2
    | 3 => a3
    | 4 => a4
    | 5 => a5
    | _ => 0)) J (fun e he => absurd he List.not_mem_nil) (by
      intro f hf
      have hf : f ∈ [(((-400) : Int), [((0 : Nat), (1 : Int))]), ((405 : Int), [((0 : Nat), ((-1) : Int))])] := hf
      simp only [List.mem_cons, List.not_mem_nil, or_false] at hf
      rcases hf with rfl | rfl <;> simp only [zv, zl] <;> omega)
  have e : (kA ct_X11_act_k4lo).map (fun q => (q.1, zv (fun v => match v with
    | 0 => a0
    | 1 => a1
    | 2 => a2
    | 3 => a3
    | 4 => a4
    | 5 => a5
    | _ => 0) q.2)) = [(2, ((4 : Nat) : Int)), (0, a0), (0, a1), (0, a2), (0, a3), (0, a4), (0, a5)] := by
    show [((2 : Nat), (4 : Int) + 0), (0, 0 + (1 * a0 + 0)), (0, 0 + (1 * a1 + 0)), (0, 0 + (1 * a2 + 0)), (0, 0 + (1 * a3 + 0)), (0, 0 + (1 * a4 + 0)), (0, 0 + (1 * a5 + 0))] = _
    simp only [show ∀ a : Int, (0 : Int) + (1 * a + 0) = a from fun a => by omega]
    rfl
  rw [e] at z
  refine MCal.mono ?_ z
  rintro ⟨o1, o2⟩ h' ⟨J', ρ', e1, e2, e3, e4, e5, e6, e7, e8, e9⟩
  have e2 : o1 = 1 ∧ o2 = (1, ρ' 200) := e2
  obtain ⟨rfl, rfl⟩ := e2
  exact ⟨rfl, rfl, J', e4⟩
set_option maxRecDepth 20000 in
theorem ap_X11_act_k4x {h : MH} (J : JJ zJ h) (a0 a1 a2 a3 a4 a5 : Int) (f0 : 0 ≤ -406 + 1 * a0) (f1 : 0 ≤ 406 - 1 * a0) : MCal KX11_act yX11_act 0 0 [(2, ((4 : Nat) : Int)), (0, a0), (0, a1), (0, a2), (0, a3), (0, a4), (0, a5)] h (mRL (fun _ h2 => JJ zJ h2 ∧ Frm (kMd ct_X11_act_k4x) h h2)) := by
  have z := JJ.call (q := (KX11_act, yX11_act, 11, 6, 0)) ok_X11_act_k4x (by decide +kernel) rfl (ρ := (fun v => match v with
    | 0 => a0
    | 1 => a1
    | 2 => a2
    | 3 => a3
    | 4 => a4
    | 5 => a5
    | _ => 0)) J (fun e he => absurd he List.not_mem_nil) (by
      intro f hf
      have hf : f ∈ [(((-406) : Int), [((0 : Nat), (1 : Int))]), ((406 : Int), [((0 : Nat), ((-1) : Int))])] := hf
      simp only [List.mem_cons, List.not_mem_nil, or_false] at hf
      rcases hf with rfl | rfl <;> simp only [zv, zl] <;> omega)
  have e : (kA ct_X11_act_k4x).map (fun q => (q.1, zv (fun v => match v with
    | 0 => a0
    | 1 => a1
    | 2 => a2
    | 3 => a3
    | 4 => a4
    | 5 => a5
    | _ => 0) q.2)) = [(2, ((4 : Nat) : Int)), (0, a0), (0, a1), (0, a2), (0, a3), (0, a4), (0, a5)] := by
    show [((2 : Nat), (4 : Int) + 0), (0, 0 + (1 * a0 + 0)), (0, 0 + (1 * a1 + 0)), (0, 0 + (1 * a2 + 0)), (0, 0 + (1 * a3 + 0)), (0, 0 + (1 * a4 + 0)), (0, 0 + (1 * a5 + 0))] = _
    simp only [show ∀ a : Int, (0 : Int) + (1 * a + 0) = a from fun a => by omega]
    rfl
  rw [e] at z
  refine MCal.mono ?_ z
  rintro ⟨o1, o2⟩ h' ⟨J', ρ', e1, e2, e3, e4, e5, e6, e7, e8, e9⟩
  have e2 : o1 = 1 ∧ o2 = (1, ρ' 200) := e2
  obtain ⟨rfl, rfl⟩ := e2
  exact ⟨rfl, rfl, J', e4⟩
set_option maxRecDepth 20000 in
theorem ap_X11_act_k5hi {h : MH} (J : JJ zJ h) (a0 a1 a2 a3 a4 a5 : Int) (f0 : 0 ≤ -504 + 1 * a0) (f1 : 0 ≤ 599 - 1 * a0) : MCal KX11_act yX11_act 0 0 [(2, ((4 : Nat) : Int)), (0, a0), (0, a1), (0, a2), (0, a3), (0, a4), (0, a5)] h (mRL (fun _ h2 => JJ zJ h2 ∧ Frm (kMd ct_X11_act_k5hi) h h2)) := by
  have z := JJ.call (q := (KX11_act, yX11_act, 11, 6, 0)) ok_X11_act_k5hi (by decide +kernel) rfl (ρ := (fun v => match v with
    | 0 => a0
    | 1 => a1
    | 2 => a2
    | 3 => a3
    | 4 => a4
    | 5 => a5
    | _ => 0)) J (fun e he => absurd he List.not_mem_nil) (by
      intro f hf
      have hf : f ∈ [(((-504) : Int), [((0 : Nat), (1 : Int))]), ((599 : Int), [((0 : Nat), ((-1) : Int))])] := hf
      simp only [List.mem_cons, List.not_mem_nil, or_false] at hf
      rcases hf with rfl | rfl <;> simp only [zv, zl] <;> omega)
  have e : (kA ct_X11_act_k5hi).map (fun q => (q.1, zv (fun v => match v with
    | 0 => a0
    | 1 => a1
    | 2 => a2
    | 3 => a3
    | 4 => a4
    | 5 => a5
    | _ => 0) q.2)) = [(2, ((4 : Nat) : Int)), (0, a0), (0, a1), (0, a2), (0, a3), (0, a4), (0, a5)] := by
    show [((2 : Nat), (4 : Int) + 0), (0, 0 + (1 * a0 + 0)), (0, 0 + (1 * a1 + 0)), (0, 0 + (1 * a2 + 0)), (0, 0 + (1 * a3 + 0)), (0, 0 + (1 * a4 + 0)), (0, 0 + (1 * a5 + 0))] = _
    simp only [show ∀ a : Int, (0 : Int) + (1 * a + 0) = a from fun a => by omega]
    rfl
  rw [e] at z
  refine MCal.mono ?_ z
  rintro ⟨o1, o2⟩ h' ⟨J', ρ', e1, e2, e3, e4, e5, e6, e7, e8, e9⟩
  have e2 : o1 = 1 ∧ o2 = (1, ρ' 200) := e2
  obtain ⟨rfl, rfl⟩ := e2
  exact ⟨rfl, rfl, J', e4⟩
set_option maxRecDepth 20000 in
theorem ap_X11_act_k5m0 {h : MH} (J : JJ zJ h) (a0 a1 a2 a3 a4 a5 : Int) (f0 : 0 ≤ -500 + 1 * a0) (f1 : 0 ≤ 500 - 1 * a0) (f2 : 0 ≤ -1 + 1 * a1) (f3 : 0 ≤ 6 - 1 * a1) : MCal KX11_act yX11_act 0 0 [(2, ((4 : Nat) : Int)), (0, a0), (0, a1), (0, a2), (0, a3), (0, a4), (0, a5)] h (mRL (fun _ h2 => JJ zJ h2 ∧ Frm (kMd ct_X11_act_k5m0) h h2)) := by
  have z := JJ.call (q := (KX11_act, yX11_act, 11, 6, 0)) ok_X11_act_k5m0 (by decide +kernel) rfl (ρ := (fun v => match v with
    | 0 => a0
    | 1 => a1
    | 2 => a2
    | 3 => a3
    | 4 => a4
    | 5 => a5
    | _ => 0)) J (fun e he => absurd he List.not_mem_nil) (by
      intro f hf
      have hf : f ∈ [(((-500) : Int), [((0 : Nat), (1 : Int))]), ((500 : Int), [((0 : Nat), ((-1) : Int))]), (((-1) : Int), [((1 : Nat), (1 : Int))]), ((6 : Int), [((1 : Nat), ((-1) : Int))])] := hf
      simp only [List.mem_cons, List.not_mem_nil, or_false] at hf
      rcases hf with rfl | rfl | rfl | rfl <;> simp only [zv, zl] <;> omega)
  have e : (kA ct_X11_act_k5m0).map (fun q => (q.1, zv (fun v => match v with
    | 0 => a0
    | 1 => a1
    | 2 => a2
    | 3 => a3
    | 4 => a4
    | 5 => a5
    | _ => 0) q.2)) = [(2, ((4 : Nat) : Int)), (0, a0), (0, a1), (0, a2), (0, a3), (0, a4), (0, a5)] := by
    show [((2 : Nat), (4 : Int) + 0), (0, 0 + (1 * a0 + 0)), (0, 0 + (1 * a1 + 0)), (0, 0 + (1 * a2 + 0)), (0, 0 + (1 * a3 + 0)), (0, 0 + (1 * a4 + 0)), (0, 0 + (1 * a5 + 0))] = _
    simp only [show ∀ a : Int, (0 : Int) + (1 * a + 0) = a from fun a => by omega]
    rfl
  rw [e] at z
  refine MCal.mono ?_ z
  rintro ⟨o1, o2⟩ h' ⟨J', ρ', e1, e2, e3, e4, e5, e6, e7, e8, e9⟩
  have e2 : o1 = 1 ∧ o2 = (1, ρ' 200) := e2
  obtain ⟨rfl, rfl⟩ := e2
  exact ⟨rfl, rfl, J', e4⟩
set_option maxRecDepth 20000 in
theorem ap_X11_act_k5m1 {h : MH} (J : JJ zJ h) (a0 a1 a2 a3 a4 a5 : Int) (f0 : 0 ≤ -501 + 1 * a0) (f1 : 0 ≤ 501 - 1 * a0) (f2 : 0 ≤ 0 + 1 * a1) (f3 : 0 ≤ -1 - 1 * a1 + 1 * gz h 833 0) (f4 : 0 ≤ 0 + 1 * a2) (f5 : 0 ≤ -1 - 1 * a2 + 1 * gz h 833 0) : MCal KX11_act yX11_act 0 0 [(2, ((4 : Nat) : Int)), (0, a0), (0, a1), (0, a2), (0, a3), (0, a4), (0, a5)] h (mRL (fun _ h2 => JJ zJ h2 ∧ Frm (kMd ct_X11_act_k5m1) h h2)) := by
  have z := JJ.call (q := (KX11_act, yX11_act, 11, 6, 0)) ok_X11_act_k5m1 (by decide +kernel) rfl (ρ := (fun v => match v with
    | 0 => a0
    | 1 => a1
    | 2 => a2
    | 3 => a3
    | 4 => a4
    | 5 => a5
    | 50 => gz h 833 0
    | _ => 0)) J (List.forall_mem_cons.mpr ⟨rfl, (fun e he => absurd he List.not_mem_nil)⟩) (by
      intro f hf
      have hf : f ∈ [(((-501) : Int), [((0 : Nat), (1 : Int))]), ((501 : Int), [((0 : Nat), ((-1) : Int))]), ((0 : Int), [((1 : Nat), (1 : Int))]), (((-1) : Int), [((1 : Nat), ((-1) : Int)), ((50 : Nat), (1 : Int))]), ((0 : Int), [((2 : Nat), (1 : Int))]), (((-1) : Int), [((2 : Nat), ((-1) : Int)), ((50 : Nat), (1 : Int))])] := hf
      simp only [List.mem_cons, List.not_mem_nil, or_false] at hf
      rcases hf with rfl | rfl | rfl | rfl | rfl | rfl <;> simp only [zv, zl] <;> omega)
  have e : (kA ct_X11_act_k5m1).map (fun q => (q.1, zv (fun v => match v with
    | 0 => a0
    | 1 => a1
    | 2 => a2
    | 3 => a3
    | 4 => a4
    | 5 => a5
    | 50 => gz h 833 0
    | _ => 0) q.2)) = [(2, ((4 : Nat) : Int)), (0, a0), (0, a1), (0, a2), (0, a3), (0, a4), (0, a5)] := by
    show [((2 : Nat), (4 : Int) + 0), (0, 0 + (1 * a0 + 0)), (0, 0 + (1 * a1 + 0)), (0, 0 + (1 * a2 + 0)), (0, 0 + (1 * a3 + 0)), (0, 0 + (1 * a4 + 0)), (0, 0 + (1 * a5 + 0))] = _
    simp only [show ∀ a : Int, (0 : Int) + (1 * a + 0) = a from fun a => by omega]
    rfl
  rw [e] at z
  refine MCal.mono ?_ z
  rintro ⟨o1, o2⟩ h' ⟨J', ρ', e1, e2, e3, e4, e5, e6, e7, e8, e9⟩
  have e2 : o1 = 1 ∧ o2 = (1, ρ' 200) := e2
  obtain ⟨rfl, rfl⟩ := e2
  exact ⟨rfl, rfl, J', e4⟩
set_option maxRecDepth 20000 in
theorem ap_X11_act_k5m2 {h : MH} (J : JJ zJ h) (a0 a1 a2 a3 a4 a5 : Int) (f0 : 0 ≤ -502 + 1 * a0) (f1 : 0 ≤ 503 - 1 * a0) (f2 : 0 ≤ 0 + 1 * a1) (f3 : 0 ≤ -1 - 1 * a1 + 1 * gz h 833 0) : MCal KX11_act yX11_act 0 0 [(2, ((4 : Nat) : Int)), (0, a0), (0, a1), (0, a2), (0, a3), (0, a4), (0, a5)] h (mRL (fun _ h2 => JJ zJ h2 ∧ Frm (kMd ct_X11_act_k5m2) h h2)) := by
  have z := JJ.call (q := (KX11_act, yX11_act, 11, 6, 0)) ok_X11_act_k5m2 (by decide +kernel) rfl (ρ := (fun v => match v with
    | 0 => a0
    | 1 => a1
    | 2 => a2
    | 3 => a3
    | 4 => a4
    | 5 => a5
    | 50 => gz h 833 0
    | _ => 0)) J (List.forall_mem_cons.mpr ⟨rfl, (fun e he => absurd he List.not_mem_nil)⟩) (by
      intro f hf
      have hf : f ∈ [(((-502) : Int), [((0 : Nat), (1 : Int))]), ((503 : Int), [((0 : Nat), ((-1) : Int))]), ((0 : Int), [((1 : Nat), (1 : Int))]), (((-1) : Int), [((1 : Nat), ((-1) : Int)), ((50 : Nat), (1 : Int))])] := hf
      simp only [List.mem_cons, List.not_mem_nil, or_false] at hf
      rcases hf with rfl | rfl | rfl | rfl <;> simp only [zv, zl] <;> omega)
  have e : (kA ct_X11_act_k5m2).map (fun q => (q.1, zv (fun v => match v with
    | 0 => a0
    | 1 => a1
    | 2 => a2
    | 3 => a3
    | 4 => a4
    | 5 => a5
    | 50 => gz h 833 0
    | _ => 0) q.2)) = [(2, ((4 : Nat) : Int)), (0, a0), (0, a1), (0, a2), (0, a3), (0, a4), (0, a5)] := by
    show [((2 : Nat), (4 : Int) + 0), (0, 0 + (1 * a0 + 0)), (0, 0 + (1 * a1 + 0)), (0, 0 + (1 * a2 + 0)), (0, 0 + (1 * a3 + 0)), (0, 0 + (1 * a4 + 0)), (0, 0 + (1 * a5 + 0))] = _
    simp only [show ∀ a : Int, (0 : Int) + (1 * a + 0) = a from fun a => by omega]
    rfl
  rw [e] at z
  refine MCal.mono ?_ z
  rintro ⟨o1, o2⟩ h' ⟨J', ρ', e1, e2, e3, e4, e5, e6, e7, e8, e9⟩
  have e2 : o1 = 1 ∧ o2 = (1, ρ' 200) := e2
  obtain ⟨rfl, rfl⟩ := e2
  exact ⟨rfl, rfl, J', e4⟩
set_option maxRecDepth 20000 in
theorem ap_X11_act_k6 {h : MH} (J : JJ zJ h) (a0 a1 a2 a3 a4 a5 : Int) (f0 : 0 ≤ -600 + 1 * a0) (f1 : 0 ≤ 699 - 1 * a0) (f2 : 0 ≤ 95 - 1 * gz h 1319 2) : MCal KX11_act yX11_act 1 10216 [(2, ((4 : Nat) : Int)), (0, a0), (0, a1), (0, a2), (0, a3), (0, a4), (0, a5)] h (mRL (fun _ h2 => JJ zJ h2 ∧ Frm (kMd ct_X11_act_k6) h h2 ∧ gz h2 1319 2 ≤ gz h 1319 2 + 1)) := by
  have z := JJ.call (q := (KX11_act, yX11_act, 11, 6, 0)) ok_X11_act_k6 (by decide +kernel) rfl (ρ := (fun v => match v with
    | 0 => a0
    | 1 => a1
    | 2 => a2
    | 3 => a3
    | 4 => a4
    | 5 => a5
    | 50 => gz h 1319 2
    | _ => 0)) J (List.forall_mem_cons.mpr ⟨rfl, (fun e he => absurd he List.not_mem_nil)⟩) (by
      intro f hf
      have hf : f ∈ [(((-600) : Int), [((0 : Nat), (1 : Int))]), ((699 : Int), [((0 : Nat), ((-1) : Int))]), ((95 : Int), [((50 : Nat), ((-1) : Int))])] := hf
      simp only [List.mem_cons, List.not_mem_nil, or_false] at hf
      rcases hf with rfl | rfl | rfl <;> simp only [zv, zl] <;> omega)
  have e : (kA ct_X11_act_k6).map (fun q => (q.1, zv (fun v => match v with
    | 0 => a0
    | 1 => a1
    | 2 => a2
    | 3 => a3
    | 4 => a4
    | 5 => a5
    | 50 => gz h 1319 2
    | _ => 0) q.2)) = [(2, ((4 : Nat) : Int)), (0, a0), (0, a1), (0, a2), (0, a3), (0, a4), (0, a5)] := by
    show [((2 : Nat), (4 : Int) + 0), (0, 0 + (1 * a0 + 0)), (0, 0 + (1 * a1 + 0)), (0, 0 + (1 * a2 + 0)), (0, 0 + (1 * a3 + 0)), (0, 0 + (1 * a4 + 0)), (0, 0 + (1 * a5 + 0))] = _
    simp only [show ∀ a : Int, (0 : Int) + (1 * a + 0) = a from fun a => by omega]
    rfl
  rw [e] at z
  refine MCal.mono ?_ z
  rintro ⟨o1, o2⟩ h' ⟨J', ρ', e1, e2, e3, e4, e5, e6, e7, e8, e9⟩
  have e2 : o1 = 1 ∧ o2 = (1, ρ' 200) := e2
  obtain ⟨rfl, rfl⟩ := e2
  have x1 : gz h' 1319 2 = ρ' 201 := e5 _ List.mem_cons_self
  have x2 : ρ' 50 = gz h 1319 2 := e1 50 (by decide)
  have f1 := e6 _ List.mem_cons_self
  have f2 := e6 _ (List.mem_cons_of_mem _ List.mem_cons_self)
  simp only [zv, zl] at f1 f2
  exact ⟨rfl, rfl, J', e4, by omega⟩
set_option maxRecDepth 20000 in
theorem ap_X11_act_k7hi {h : MH} (J : JJ zJ h) (a0 a1 a2 a3 a4 a5 : Int) (f0 : 0 ≤ -723 + 1 * a0) (f1 : 0 ≤ 799 - 1 * a0) : MCal KX11_act yX11_act 0 0 [(2, ((4 : Nat) : Int)), (0, a0), (0, a1), (0, a2), (0, a3), (0, a4), (0, a5)] h (mRL (fun _ h2 => JJ zJ h2 ∧ Frm (kMd ct_X11_act_k7hi) h h2)) := by
  have z := JJ.call (q := (KX11_act, yX11_act, 11, 6, 0)) ok_X11_act_k7hi (by decide +kernel) rfl (ρ := (fun v => match v with
    | 0 => a0
    | 1 => a1
    | 2 => a2
    | 3 => a3
    | 4 => a4
    | 5 => a5
    | _ => 0)) J (fun e he => absurd he List.not_mem_nil) (by
      intro f hf
      have hf : f ∈ [(((-723) : Int), [((0 : Nat), (1 : Int))]), ((799 : Int), [((0 : Nat), ((-1) : Int))])] := hf
      simp only [List.mem_cons, List.not_mem_nil, or_false] at hf
      rcases hf with rfl | rfl <;> simp only [zv, zl] <;> omega)
  have e : (kA ct_X11_act_k7hi).map (fun q => (q.1, zv (fun v => match v with
    | 0 => a0
    | 1 => a1
    | 2 => a2
    | 3 => a3
    | 4 => a4
    | 5 => a5
    | _ => 0) q.2)) = [(2, ((4 : Nat) : Int)), (0, a0), (0, a1), (0, a2), (0, a3), (0, a4), (0, a5)] := by
    show [((2 : Nat), (4 : Int) + 0), (0, 0 + (1 * a0 + 0)), (0, 0 + (1 * a1 + 0)), (0, 0 + (1 * a2 + 0)), (0, 0 + (1 * a3 + 0)), (0, 0 + (1 * a4 + 0)), (0, 0 + (1 * a5 + 0))] = _
    simp only [show ∀ a : Int, (0 : Int) + (1 * a + 0) = a from fun a => by omega]
    rfl
  rw [e] at z
  refine MCal.mono ?_ z
  rintro ⟨o1, o2⟩ h' ⟨J', ρ', e1, e2, e3, e4, e5, e6, e7, e8, e9⟩
  have e2 : o1 = 1 ∧ o2 = (1, ρ' 200) := e2
  obtain ⟨rfl, rfl⟩ := e2
  exact ⟨rfl, rfl, J', e4⟩
set_option maxRecDepth 20000 in
theorem ap_X11_act_k7lo {h : MH} (J : JJ zJ h) (a0 a1 a2 a3 a4 a5 : Int) (f0 : 0 ≤ -700 + 1 * a0) (f1 : 0 ≤ 721 - 1 * a0) : MCal KX11_act yX11_act 0 0 [(2, ((4 : Nat) : Int)), (0, a0), (0, a1), (0, a2), (0, a3), (0, a4), (0, a5)] h (mRL (fun _ h2 => JJ zJ h2 ∧ Frm (kMd ct_X11_act_k7lo) h h2)) := by
  have z := JJ.call (q := (KX11_act, yX11_act, 11, 6, 0)) ok_X11_act_k7lo (by decide +kernel) rfl (ρ := (fun v => match v with
    | 0 => a0
    | 1 => a1
    | 2 => a2
    | 3 => a3
    | 4 => a4
    | 5 => a5
    | _ => 0)) J (fun e he => absurd he List.not_mem_nil) (by
      intro f hf
      have hf : f ∈ [(((-700) : Int), [((0 : Nat), (1 : Int))]), ((721 : Int), [((0 : Nat), ((-1) : Int))])] := hf
      simp only [List.mem_cons, List.not_mem_nil, or_false] at hf
      rcases hf with rfl | rfl <;> simp only [zv, zl] <;> omega)
  have e : (kA ct_X11_act_k7lo).map (fun q => (q.1, zv (fun v => match v with
    | 0 => a0
    | 1 => a1
    | 2 => a2
    | 3 => a3
    | 4 => a4
    | 5 => a5
    | _ => 0) q.2)) = [(2, ((4 : Nat) : Int)), (0, a0), (0, a1), (0, a2), (0, a3), (0, a4), (0, a5)] := by
    show [((2 : Nat), (4 : Int) + 0), (0, 0 + (1 * a0 + 0)), (0, 0 + (1 * a1 + 0)), (0, 0 + (1 * a2 + 0)), (0, 0 + (1 * a3 + 0)), (0, 0 + (1 * a4 + 0)), (0, 0 + (1 * a5 + 0))] = _
    simp only [show ∀ a : Int, (0 : Int) + (1 * a + 0) = a from fun a => by omega]
    rfl
  rw [e] at z
  refine MCal.mono ?_ z
  rintro ⟨o1, o2⟩ h' ⟨J', ρ', e1, e2, e3, e4, e5, e6, e7, e8, e9⟩
  have e2 : o1 = 1 ∧ o2 = (1, ρ' 200) := e2
  obtain ⟨rfl, rfl⟩ := e2
  exact ⟨rfl, rfl, J', e4⟩
set_option maxRecDepth 20000 in
theorem ap_X11_act_k7m {h : MH} (J : JJ zJ h) (a0 a1 a2 a3 a4 a5 : Int) (f0 : 0 ≤ -722 + 1 * a0) (f1 : 0 ≤ 722 - 1 * a0) (f2 : 0 ≤ 0 + 1 * a1) (f3 : 0 ≤ -1 - 1 * a1 + 1 * gz h 1982 5) : MCal KX11_act yX11_act 0 0 [(2, ((4 : Nat) : Int)), (0, a0), (0, a1), (0, a2), (0, a3), (0, a4), (0, a5)] h (mRL (fun _ h2 => JJ zJ h2 ∧ Frm (kMd ct_X11_act_k7m) h h2)) := by
  have z := JJ.call (q := (KX11_act, yX11_act, 11, 6, 0)) ok_X11_act_k7m (by decide +kernel) rfl (ρ := (fun v => match v with
    | 0 => a0
    | 1 => a1
    | 2 => a2
    | 3 => a3
    | 4 => a4
    | 5 => a5
    | 50 => gz h 1982 5
    | _ => 0)) J (List.forall_mem_cons.mpr ⟨rfl, (fun e he => absurd he List.not_mem_nil)⟩) (by
      intro f hf
      have hf : f ∈ [(((-722) : Int), [((0 : Nat), (1 : Int))]), ((722 : Int), [((0 : Nat), ((-1) : Int))]), ((0 : Int), [((1 : Nat), (1 : Int))]), (((-1) : Int), [((1 : Nat), ((-1) : Int)), ((50 : Nat), (1 : Int))])] := hf
      simp only [List.mem_cons, List.not_mem_nil, or_false] at hf
      rcases hf with rfl | rfl | rfl | rfl <;> simp only [zv, zl] <;> omega)
  have e : (kA ct_X11_act_k7m).map (fun q => (q.1, zv (fun v => match v with
    | 0 => a0
    | 1 => a1
    | 2 => a2
    | 3 => a3
    | 4 => a4
    | 5 => a5
    | 50 => gz h 1982 5
    | _ => 0) q.2)) = [(2, ((4 : Nat) : Int)), (0, a0), (0, a1), (0, a2), (0, a3), (0, a4), (0, a5)] := by
    show [((2 : Nat), (4 : Int) + 0), (0, 0 + (1 * a0 + 0)), (0, 0 + (1 * a1 + 0)), (0, 0 + (1 * a2 + 0)), (0, 0 + (1 * a3 + 0)), (0, 0 + (1 * a4 + 0)), (0, 0 + (1 * a5 + 0))] = _
    simp only [show ∀ a : Int, (0 : Int) + (1 * a + 0) = a from fun a => by omega]
    rfl
  rw [e] at z
  refine MCal.mono ?_ z
  rintro ⟨o1, o2⟩ h' ⟨J', ρ', e1, e2, e3, e4, e5, e6, e7, e8, e9⟩
  have e2 : o1 = 1 ∧ o2 = (1, ρ' 200) := e2
  obtain ⟨rfl, rfl⟩ := e2
  exact ⟨rfl, rfl, J', e4⟩
set_option maxRecDepth 20000 in
theorem ap_X11_act_n {h : MH} (J : JJ zJ h) (a0 a1 a2 a3 a4 a5 : Int) (f0 : 0 ≤ -1 - 1 * a0) : MCal KX11_act yX11_act 0 0 [(2, ((4 : Nat) : Int)), (0, a0), (0, a1), (0, a2), (0, a3), (0, a4), (0, a5)] h (mRL (fun _ h2 => JJ zJ h2 ∧ Frm (kMd ct_X11_act_n) h h2)) := by
  have z := JJ.call (q := (KX11_act, yX11_act, 11, 6, 0)) ok_X11_act_n (by decide +kernel) rfl (ρ := (fun v => match v with
    | 0 => a0
    | 1 => a1
    | 2 => a2
    | 3 => a3
    | 4 => a4
    | 5 => a5
    | _ => 0)) J (fun e he => absurd he List.not_mem_nil) (by
      intro f hf
      have hf : f ∈ [(((-1) : Int), [((0 : Nat), ((-1) : Int))])] := hf
      simp only [List.mem_cons, List.not_mem_nil, or_false] at hf
      subst hf
      simp only [zv, zl]
      omega)
  have e : (kA ct_X11_act_n).map (fun q => (q.1, zv (fun v => match v with
    | 0 => a0
    | 1 => a1
    | 2 => a2
    | 3 => a3
    | 4 => a4
    | 5 => a5
    | _ => 0) q.2)) = [(2, ((4 : Nat) : Int)), (0, a0), (0, a1), (0, a2), (0, a3), (0, a4), (0, a5)] := by
    show [((2 : Nat), (4 : Int) + 0), (0, 0 + (1 * a0 + 0)), (0, 0 + (1 * a1 + 0)), (0, 0 + (1 * a2 + 0)), (0, 0 + (1 * a3 + 0)), (0, 0 + (1 * a4 + 0)), (0, 0 + (1 * a5 + 0))] = _
    simp only [show ∀ a : Int, (0 : Int) + (1 * a + 0) = a from fun a => by omega]
    rfl
  rw [e] at z
  refine MCal.mono ?_ z
  rintro ⟨o1, o2⟩ h' ⟨J', ρ', e1, e2, e3, e4, e5, e6, e7, e8, e9⟩
  have e2 : o1 = 1 ∧ o2 = (1, ρ' 200) := e2
  obtain ⟨rfl, rfl⟩ := e2
  exact ⟨rfl, rfl, J', e4⟩
theorem dl_X11_earth : dLI (kMd ct_X11_earth) = true := by decide +kernel
theorem dl_X20_earth : dLI (kMd ct_X20_earth) = true := by decide +kernel
theorem dl_X11_bridge : dLI (kMd ct_X11_bridge) = true := by decide +kernel
theorem dl_X20_bridge : dLI (kMd ct_X20_bridge) = true := by decide +kernel
theorem dl_X11_rowOf : dLI (kMd ct_X11_rowOf) = true := by decide +kernel
theorem dl_X20_rowOf : dLI (kMd ct_X20_rowOf) = true := by decide +kernel
theorem dl_X11_pass : dLI (kMd ct_X11_pass) = true := by decide +kernel
theorem dl_X20_pass : dLI (kMd ct_X20_pass) = true := by decide +kernel
theorem dl_X11_drive : dLI (kMd ct_X11_drive) = true := by decide +kernel
theorem dl_X20_drive : dLI (kMd ct_X20_drive) = true := by decide +kernel
theorem dl_X11_bill : dLI (kMd ct_X11_bill) = true := by decide +kernel
theorem dl_X20_bill : dLI (kMd ct_X20_bill) = true := by decide +kernel
theorem dl_X11_whole : dLI (kMd ct_X11_whole) = true := by decide +kernel
theorem dl_X20_whole : dLI (kMd ct_X20_whole) = true := by decide +kernel
theorem dl_X11_crack : dLI (kMd ct_X11_crack) = true := by decide +kernel
theorem dl_X20_crack : dLI (kMd ct_X20_crack) = true := by decide +kernel
theorem dl_X11_crackAt : dLI (kMd ct_X11_crackAt) = true := by decide +kernel
theorem dl_X20_crackAt : dLI (kMd ct_X20_crackAt) = true := by decide +kernel
