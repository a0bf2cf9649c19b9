/-! the contracts of the calls that the law makes -/
set_option maxRecDepth 20000 in
theorem ap_X20_drive {h : MH} (J : JJ zJ h) (a0 : Int) : MCal KX20_drive yX20_drive 0 0 [(2, ((2448 : Nat) : Int)), (0, a0)] h (mRI (fun _ h2 => JJ zJ h2 ∧ Frm (kMd ct_X20_drive) h h2)) := by
  have z := JJ.call2 (q := (KX20_drive, yX20_drive, 20, 1, 0)) ok_X20_drive (by decide +kernel) rfl (ρ := (fun v => match v with
    | 0 => a0
    | _ => 0)) J (fun e he => absurd he List.not_mem_nil) (by
      exact fun f hf => absurd hf List.not_mem_nil)
  have e : (kA ct_X20_drive).map (fun q => (q.1, zv (fun v => match v with
    | 0 => a0
    | _ => 0) q.2)) = [(2, ((2448 : Nat) : Int)), (0, a0)] := by
    show [((2 : Nat), (2448 : Int) + 0), (0, 0 + (1 * a0 + 0))] = _
    simp only [show ∀ a : Int, (0 : Int) + (1 * a + 0) = a from fun a => by omega]
    rfl
  rw [e] at z
  refine MCal.mono ?_ z
  rintro ⟨o1, o2⟩ h' ⟨J', ρ', e1, e2, e3, e4, e5, e6, e7, e8, e9⟩
  have e2 : o1 = 1 ∧ o2 = (0, ρ' 200) := e2
  obtain ⟨rfl, rfl⟩ := e2
  exact ⟨rfl, rfl, J', e4⟩
set_option maxRecDepth 20000 in
theorem ap_X11_bill {h : MH} (J : JJ zJ h) (a0 : Int) : MCal KX11_bill yX11_bill 0 0 [(2, ((4 : Nat) : Int)), (0, a0)] h (mRI (fun _ h2 => JJ zJ h2 ∧ Frm (kMd ct_X11_bill) h h2)) := by
  have z := JJ.call2 (q := (KX11_bill, yX11_bill, 11, 1, 0)) ok_X11_bill (by decide +kernel) rfl (ρ := (fun v => match v with
    | 0 => a0
    | _ => 0)) J (fun e he => absurd he List.not_mem_nil) (by
      exact fun f hf => absurd hf List.not_mem_nil)
  have e : (kA ct_X11_bill).map (fun q => (q.1, zv (fun v => match v with
    | 0 => a0
    | _ => 0) q.2)) = [(2, ((4 : Nat) : Int)), (0, a0)] := by
    show [((2 : Nat), (4 : Int) + 0), (0, 0 + (1 * a0 + 0))] = _
    simp only [show ∀ a : Int, (0 : Int) + (1 * a + 0) = a from fun a => by omega]
    rfl
  rw [e] at z
  refine MCal.mono ?_ z
  rintro ⟨o1, o2⟩ h' ⟨J', ρ', e1, e2, e3, e4, e5, e6, e7, e8, e9⟩
  have e2 : o1 = 1 ∧ o2 = (0, ρ' 200) := e2
  obtain ⟨rfl, rfl⟩ := e2
  exact ⟨rfl, rfl, J', e4⟩
set_option maxRecDepth 20000 in
theorem ap_X20_bill {h : MH} (J : JJ zJ h) (a0 : Int) : MCal KX20_bill yX20_bill 0 0 [(2, ((2448 : Nat) : Int)), (0, a0)] h (mRI (fun _ h2 => JJ zJ h2 ∧ Frm (kMd ct_X20_bill) h h2)) := by
  have z := JJ.call2 (q := (KX20_bill, yX20_bill, 20, 1, 0)) ok_X20_bill (by decide +kernel) rfl (ρ := (fun v => match v with
    | 0 => a0
    | _ => 0)) J (fun e he => absurd he List.not_mem_nil) (by
      exact fun f hf => absurd hf List.not_mem_nil)
  have e : (kA ct_X20_bill).map (fun q => (q.1, zv (fun v => match v with
    | 0 => a0
    | _ => 0) q.2)) = [(2, ((2448 : Nat) : Int)), (0, a0)] := by
    show [((2 : Nat), (2448 : Int) + 0), (0, 0 + (1 * a0 + 0))] = _
    simp only [show ∀ a : Int, (0 : Int) + (1 * a + 0) = a from fun a => by omega]
    rfl
  rw [e] at z
  refine MCal.mono ?_ z
  rintro ⟨o1, o2⟩ h' ⟨J', ρ', e1, e2, e3, e4, e5, e6, e7, e8, e9⟩
  have e2 : o1 = 1 ∧ o2 = (0, ρ' 200) := e2
  obtain ⟨rfl, rfl⟩ := e2
  exact ⟨rfl, rfl, J', e4⟩
set_option maxRecDepth 20000 in
theorem ap_X11_whole {h : MH} (J : JJ zJ h) (a0 : Int) : MCal KX11_whole yX11_whole 0 0 [(2, ((4 : Nat) : Int)), (0, a0)] h (mRI (fun _ h2 => JJ zJ h2 ∧ Frm (kMd ct_X11_whole) h h2)) := by
  have z := JJ.call2 (q := (KX11_whole, yX11_whole, 11, 1, 0)) ok_X11_whole (by decide +kernel) rfl (ρ := (fun v => match v with
    | 0 => a0
    | _ => 0)) J (fun e he => absurd he List.not_mem_nil) (by
      exact fun f hf => absurd hf List.not_mem_nil)
  have e : (kA ct_X11_whole).map (fun q => (q.1, zv (fun v => match v with
    | 0 => a0
    | _ => 0) q.2)) = [(2, ((4 : Nat) : Int)), (0, a0)] := by
    show [((2 : Nat), (4 : Int) + 0), (0, 0 + (1 * a0 + 0))] = _
    simp only [show ∀ a : Int, (0 : Int) + (1 * a + 0) = a from fun a => by omega]
    rfl
  rw [e] at z
  refine MCal.mono ?_ z
  rintro ⟨o1, o2⟩ h' ⟨J', ρ', e1, e2, e3, e4, e5, e6, e7, e8, e9⟩
  have e2 : o1 = 1 ∧ o2 = (0, ρ' 200) := e2
  obtain ⟨rfl, rfl⟩ := e2
  exact ⟨rfl, rfl, J', e4⟩
set_option maxRecDepth 20000 in
theorem ap_X20_whole {h : MH} (J : JJ zJ h) (a0 : Int) : MCal KX20_whole yX20_whole 0 0 [(2, ((2448 : Nat) : Int)), (0, a0)] h (mRI (fun _ h2 => JJ zJ h2 ∧ Frm (kMd ct_X20_whole) h h2)) := by
  have z := JJ.call2 (q := (KX20_whole, yX20_whole, 20, 1, 0)) ok_X20_whole (by decide +kernel) rfl (ρ := (fun v => match v with
    | 0 => a0
    | _ => 0)) J (fun e he => absurd he List.not_mem_nil) (by
      exact fun f hf => absurd hf List.not_mem_nil)
  have e : (kA ct_X20_whole).map (fun q => (q.1, zv (fun v => match v with
    | 0 => a0
    | _ => 0) q.2)) = [(2, ((2448 : Nat) : Int)), (0, a0)] := by
    show [((2 : Nat), (2448 : Int) + 0), (0, 0 + (1 * a0 + 0))] = _
    simp only [show ∀ a : Int, (0 : Int) + (1 * a + 0) = a from fun a => by omega]
    rfl
  rw [e] at z
  refine MCal.mono ?_ z
  rintro ⟨o1, o2⟩ h' ⟨J', ρ', e1, e2, e3, e4, e5, e6, e7, e8, e9⟩
  have e2 : o1 = 1 ∧ o2 = (0, ρ' 200) := e2
  obtain ⟨rfl, rfl⟩ := e2
  exact ⟨rfl, rfl, J', e4⟩
set_option maxRecDepth 20000 in
theorem ap_X11_crack {h : MH} (J : JJ zJ h) (a0 a1 a2 : Int) : MCal KX11_crack yX11_crack 0 0 [(2, ((4 : Nat) : Int)), (3, a0), (3, a1), (0, a2)] h (mRI (fun _ h2 => JJ zJ h2 ∧ Frm (kMd ct_X11_crack) h h2)) := by
  have z := JJ.call2 (q := (KX11_crack, yX11_crack, 11, 3, 0)) ok_X11_crack (by decide +kernel) rfl (ρ := (fun v => match v with
    | 0 => a0
    | 1 => a1
    | 2 => a2
    | _ => 0)) J (fun e he => absurd he List.not_mem_nil) (by
      exact fun f hf => absurd hf List.not_mem_nil)
  have e : (kA ct_X11_crack).map (fun q => (q.1, zv (fun v => match v with
    | 0 => a0
    | 1 => a1
    | 2 => a2
    | _ => 0) q.2)) = [(2, ((4 : Nat) : Int)), (3, a0), (3, a1), (0, a2)] := by
    show [((2 : Nat), (4 : Int) + 0), (3, 0 + (1 * a0 + 0)), (3, 0 + (1 * a1 + 0)), (0, 0 + (1 * a2 + 0))] = _
    simp only [show ∀ a : Int, (0 : Int) + (1 * a + 0) = a from fun a => by omega]
    rfl
  rw [e] at z
  refine MCal.mono ?_ z
  rintro ⟨o1, o2⟩ h' ⟨J', ρ', e1, e2, e3, e4, e5, e6, e7, e8, e9⟩
  have e2 : o1 = 1 ∧ o2 = (0, ρ' 200) := e2
  obtain ⟨rfl, rfl⟩ := e2
  exact ⟨rfl, rfl, J', e4⟩
set_option maxRecDepth 20000 in
theorem ap_X11_crackAt {h : MH} (J : JJ zJ h) (a0 : Int) : MCal KX11_crackAt yX11_crackAt 0 0 [(2, ((4 : Nat) : Int)), (0, a0)] h (mRD (fun _ h2 => JJ zJ h2 ∧ Frm (kMd ct_X11_crackAt) h h2)) := by
  have z := JJ.call2 (q := (KX11_crackAt, yX11_crackAt, 11, 1, 0)) ok_X11_crackAt (by decide +kernel) rfl (ρ := (fun v => match v with
    | 0 => a0
    | _ => 0)) J (fun e he => absurd he List.not_mem_nil) (by
      exact fun f hf => absurd hf List.not_mem_nil)
  have e : (kA ct_X11_crackAt).map (fun q => (q.1, zv (fun v => match v with
    | 0 => a0
    | _ => 0) q.2)) = [(2, ((4 : Nat) : Int)), (0, a0)] := by
    show [((2 : Nat), (4 : Int) + 0), (0, 0 + (1 * a0 + 0))] = _
    simp only [show ∀ a : Int, (0 : Int) + (1 * a + 0) = a from fun a => by omega]
    rfl
  rw [e] at z
  refine MCal.mono ?_ z
  rintro ⟨o1, o2⟩ h' ⟨J', ρ', e1, e2, e3, e4, e5, e6, e7, e8, e9⟩
  have e2 : o1 = 1 ∧ o2 = (3, ρ' 200) := e2
  obtain ⟨rfl, rfl⟩ := e2
  exact ⟨rfl, rfl, J', e4⟩
set_option maxRecDepth 20000 in
theorem ap_X20_crack {h : MH} (J : JJ zJ h) (a0 a1 a2 : Int) : MCal KX20_crack yX20_crack 0 0 [(2, ((2448 : Nat) : Int)), (3, a0), (3, a1), (0, a2)] h (mRI (fun _ h2 => JJ zJ h2 ∧ Frm (kMd ct_X20_crack) h h2)) := by
  have z := JJ.call2 (q := (KX20_crack, yX20_crack, 20, 3, 0)) ok_X20_crack (by decide +kernel) rfl (ρ := (fun v => match v with
    | 0 => a0
    | 1 => a1
    | 2 => a2
    | _ => 0)) J (fun e he => absurd he List.not_mem_nil) (by
      exact fun f hf => absurd hf List.not_mem_nil)
  have e : (kA ct_X20_crack).map (fun q => (q.1, zv (fun v => match v with
    | 0 => a0
    | 1 => a1
    | 2 => a2
    | _ => 0) q.2)) = [(2, ((2448 : Nat) : Int)), (3, a0), (3, a1), (0, a2)] := by
    show [((2 : Nat), (2448 : Int) + 0), (3, 0 + (1 * a0 + 0)), (3, 0 + (1 * a1 + 0)), (0, 0 + (1 * a2 + 0))] = _
    simp only [show ∀ a : Int, (0 : Int) + (1 * a + 0) = a from fun a => by omega]
    rfl
  rw [e] at z
  refine MCal.mono ?_ z
  rintro ⟨o1, o2⟩ h' ⟨J', ρ', e1, e2, e3, e4, e5, e6, e7, e8, e9⟩
  have e2 : o1 = 1 ∧ o2 = (0, ρ' 200) := e2
  obtain ⟨rfl, rfl⟩ := e2
  exact ⟨rfl, rfl, J', e4⟩
set_option maxRecDepth 20000 in
theorem ap_X20_crackAt {h : MH} (J : JJ zJ h) (a0 : Int) : MCal KX20_crackAt yX20_crackAt 0 0 [(2, ((2448 : Nat) : Int)), (0, a0)] h (mRD (fun _ h2 => JJ zJ h2 ∧ Frm (kMd ct_X20_crackAt) h h2)) := by
  have z := JJ.call2 (q := (KX20_crackAt, yX20_crackAt, 20, 1, 0)) ok_X20_crackAt (by decide +kernel) rfl (ρ := (fun v => match v with
    | 0 => a0
    | _ => 0)) J (fun e he => absurd he List.not_mem_nil) (by
      exact fun f hf => absurd hf List.not_mem_nil)
  have e : (kA ct_X20_crackAt).map (fun q => (q.1, zv (fun v => match v with
    | 0 => a0
    | _ => 0) q.2)) = [(2, ((2448 : Nat) : Int)), (0, a0)] := by
    show [((2 : Nat), (2448 : Int) + 0), (0, 0 + (1 * a0 + 0))] = _
    simp only [show ∀ a : Int, (0 : Int) + (1 * a + 0) = a from fun a => by omega]
    rfl
  rw [e] at z
  refine MCal.mono ?_ z
  rintro ⟨o1, o2⟩ h' ⟨J', ρ', e1, e2, e3, e4, e5, e6, e7, e8, e9⟩
  have e2 : o1 = 1 ∧ o2 = (3, ρ' 200) := e2
  obtain ⟨rfl, rfl⟩ := e2
  exact ⟨rfl, rfl, J', e4⟩
