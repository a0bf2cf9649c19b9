/-! the contracts of the calls that the law makes -/
set_option maxRecDepth 20000 in
theorem ap_X11_act_d {h : MH} (J : JJ zJ h) (a0 a1 a2 a3 a4 a5 : Int) (f0 : 0 ≤ -800 + 1 * a0) : MCal KX11_act yX11_act 0 0 [(2, ((4 : Nat) : Int)), (0, a0), (0, a1), (0, a2), (0, a3), (0, a4), (0, a5)] h (mRL (fun _ h2 => JJ zJ h2 ∧ Frm (kMd ct_X11_act_d) h h2)) := by
  have z := JJ.call2 (q := (KX11_act, yX11_act, 11, 6, 0)) ok_X11_act_d (by decide +kernel) rfl (ρ := (fun v => match v with
    | 0 => a0
    | 1 => a1
    | 2 => a2
    | 3 => a3
    | 4 => a4
    | 5 => a5
    | _ => 0)) J (fun e he => absurd he List.not_mem_nil) (by
      intro f hf
      have hf : f ∈ [(((-800) : Int), [((0 : Nat), (1 : Int))])] := hf
      simp only [List.mem_cons, List.not_mem_nil, or_false] at hf
      subst hf
      simp only [zv, zl]
      omega)
  have e : (kA ct_X11_act_d).map (fun q => (q.1, zv (fun v => match v with
    | 0 => a0
    | 1 => a1
    | 2 => a2
    | 3 => a3
    | 4 => a4
    | 5 => a5
    | _ => 0) q.2)) = [(2, ((4 : Nat) : Int)), (0, a0), (0, a1), (0, a2), (0, a3), (0, a4), (0, a5)] := by
    show [((2 : Nat), (4 : Int) + 0), (0, 0 + (1 * a0 + 0)), (0, 0 + (1 * a1 + 0)), (0, 0 + (1 * a2 + 0)), (0, 0 + (1 * a3 + 0)), (0, 0 + (1 * a4 + 0)), (0, 0 + (1 * a5 + 0))] = _
    simp only [show ∀ a : Int, (0 : Int) + (1 * a + 0) = a from fun a => by omega]
    rfl
  rw [e] at z
  refine MCal.mono ?_ z
  rintro ⟨o1, o2⟩ h' ⟨J', ρ', e1, e2, e3, e4, e5, e6, e7, e8, e9⟩
  have e2 : o1 = 1 ∧ o2 = (1, ρ' 200) := e2
  obtain ⟨rfl, rfl⟩ := e2
  exact ⟨rfl, rfl, J', e4⟩
set_option maxRecDepth 20000 in
theorem ap_X11_act_k1hi {h : MH} (J : JJ zJ h) (a0 a1 a2 a3 a4 a5 : Int) (f0 : 0 ≤ -109 + 1 * a0) (f1 : 0 ≤ 199 - 1 * a0) : MCal KX11_act yX11_act 0 0 [(2, ((4 : Nat) : Int)), (0, a0), (0, a1), (0, a2), (0, a3), (0, a4), (0, a5)] h (mRL (fun _ h2 => JJ zJ h2 ∧ Frm (kMd ct_X11_act_k1hi) h h2)) := by
  have z := JJ.call2 (q := (KX11_act, yX11_act, 11, 6, 0)) ok_X11_act_k1hi (by decide +kernel) rfl (ρ := (fun v => match v with
    | 0 => a0
    | 1 => a1
    | 2 => a2
    | 3 => a3
    | 4 => a4
    | 5 => a5
    | _ => 0)) J (fun e he => absurd he List.not_mem_nil) (by
      intro f hf
      have hf : f ∈ [(((-109) : Int), [((0 : Nat), (1 : Int))]), ((199 : Int), [((0 : Nat), ((-1) : Int))])] := hf
      simp only [List.mem_cons, List.not_mem_nil, or_false] at hf
      rcases hf with rfl | rfl <;> simp only [zv, zl] <;> omega)
  have e : (kA ct_X11_act_k1hi).map (fun q => (q.1, zv (fun v => match v with
    | 0 => a0
    | 1 => a1
    | 2 => a2
    | 3 => a3
    | 4 => a4
    | 5 => a5
    | _ => 0) q.2)) = [(2, ((4 : Nat) : Int)), (0, a0), (0, a1), (0, a2), (0, a3), (0, a4), (0, a5)] := by
    show [((2 : Nat), (4 : Int) + 0), (0, 0 + (1 * a0 + 0)), (0, 0 + (1 * a1 + 0)), (0, 0 + (1 * a2 + 0)), (0, 0 + (1 * a3 + 0)), (0, 0 + (1 * a4 + 0)), (0, 0 + (1 * a5 + 0))] = _
    simp only [show ∀ a : Int, (0 : Int) + (1 * a + 0) = a from fun a => by omega]
    rfl
  rw [e] at z
  refine MCal.mono ?_ z
  rintro ⟨o1, o2⟩ h' ⟨J', ρ', e1, e2, e3, e4, e5, e6, e7, e8, e9⟩
  have e2 : o1 = 1 ∧ o2 = (1, ρ' 200) := e2
  obtain ⟨rfl, rfl⟩ := e2
  exact ⟨rfl, rfl, J', e4⟩
set_option maxRecDepth 20000 in
theorem ap_X11_act_k1lo {h : MH} (J : JJ zJ h) (a0 a1 a2 a3 a4 a5 : Int) (f0 : 0 ≤ -100 + 1 * a0) (f1 : 0 ≤ 107 - 1 * a0) : MCal KX11_act yX11_act 0 0 [(2, ((4 : Nat) : Int)), (0, a0), (0, a1), (0, a2), (0, a3), (0, a4), (0, a5)] h (mRL (fun _ h2 => JJ zJ h2 ∧ Frm (kMd ct_X11_act_k1lo) h h2)) := by
  have z := JJ.call2 (q := (KX11_act, yX11_act, 11, 6, 0)) ok_X11_act_k1lo (by decide +kernel) rfl (ρ := (fun v => match v with
    | 0 => a0
    | 1 => a1
    | 2 => a2
    | 3 => a3
    | 4 => a4
    | 5 => a5
    | _ => 0)) J (fun e he => absurd he List.not_mem_nil) (by
      intro f hf
      have hf : f ∈ [(((-100) : Int), [((0 : Nat), (1 : Int))]), ((107 : Int), [((0 : Nat), ((-1) : Int))])] := hf
      simp only [List.mem_cons, List.not_mem_nil, or_false] at hf
      rcases hf with rfl | rfl <;> simp only [zv, zl] <;> omega)
  have e : (kA ct_X11_act_k1lo).map (fun q => (q.1, zv (fun v => match v with
    | 0 => a0
    | 1 => a1
    | 2 => a2
    | 3 => a3
    | 4 => a4
    | 5 => a5
    | _ => 0) q.2)) = [(2, ((4 : Nat) : Int)), (0, a0), (0, a1), (0, a2), (0, a3), (0, a4), (0, a5)] := by
    show [((2 : Nat), (4 : Int) + 0), (0, 0 + (1 * a0 + 0)), (0, 0 + (1 * a1 + 0)), (0, 0 + (1 * a2 + 0)), (0, 0 + (1 * a3 + 0)), (0, 0 + (1 * a4 + 0)), (0, 0 + (1 * a5 + 0))] = _
    simp only [show ∀ a : Int, (0 : Int) + (1 * a + 0) = a from fun a => by omega]
    rfl
  rw [e] at z
  refine MCal.mono ?_ z
  rintro ⟨o1, o2⟩ h' ⟨J', ρ', e1, e2, e3, e4, e5, e6, e7, e8, e9⟩
  have e2 : o1 = 1 ∧ o2 = (1, ρ' 200) := e2
  obtain ⟨rfl, rfl⟩ := e2
  exact ⟨rfl, rfl, J', e4⟩
set_option maxRecDepth 20000 in
theorem ap_X11_act_k1s0 {h : MH} (J : JJ zJ h) (a0 a1 a2 a3 a4 a5 : Int) (f0 : 0 ≤ -108 + 1 * a0) (f1 : 0 ≤ 108 - 1 * a0) (f2 : 0 ≤ 0 + 1 * gz h 35 0 + 1 * gz h 35 1) (f3 : 0 ≤ 0 - 1 * gz h 35 0 - 1 * gz h 35 1) (f4 : 0 ≤ 0 + 1 * a1) : MCal KX11_act yX11_act 0 0 [(2, ((4 : Nat) : Int)), (0, a0), (0, a1), (0, a2), (0, a3), (0, a4), (0, a5)] h (mRL (fun _ h2 => JJ zJ h2 ∧ Frm (kMd ct_X11_act_k1s0) h h2)) := by
  have z := JJ.call2 (q := (KX11_act, yX11_act, 11, 6, 0)) ok_X11_act_k1s0 (by decide +kernel) rfl (ρ := (fun v => match v with
    | 0 => a0
    | 1 => a1
    | 2 => a2
    | 3 => a3
    | 4 => a4
    | 5 => a5
    | 50 => gz h 35 0
    | 51 => gz h 35 1
    | 52 => gz h 35 2
    | _ => 0)) J (List.forall_mem_cons.mpr ⟨rfl, (List.forall_mem_cons.mpr ⟨rfl, (List.forall_mem_cons.mpr ⟨rfl, (fun e he => absurd he List.not_mem_nil)⟩)⟩)⟩) (by
      intro f hf
      have hf : f ∈ [(((-108) : Int), [((0 : Nat), (1 : Int))]), ((108 : Int), [((0 : Nat), ((-1) : Int))]), ((0 : Int), [((50 : Nat), (1 : Int)), ((51 : Nat), (1 : Int))]), ((0 : Int), [((50 : Nat), ((-1) : Int)), ((51 : Nat), ((-1) : Int))]), ((0 : Int), [((1 : Nat), (1 : Int))])] := hf
      simp only [List.mem_cons, List.not_mem_nil, or_false] at hf
      rcases hf with rfl | rfl | rfl | rfl | rfl <;> simp only [zv, zl] <;> omega)
  have e : (kA ct_X11_act_k1s0).map (fun q => (q.1, zv (fun v => match v with
    | 0 => a0
    | 1 => a1
    | 2 => a2
    | 3 => a3
    | 4 => a4
    | 5 => a5
    | 50 => gz h 35 0
    | 51 => gz h 35 1
    | 52 => gz h 35 2
    | _ => 0) q.2)) = [(2, ((4 : Nat) : Int)), (0, a0), (0, a1), (0, a2), (0, a3), (0, a4), (0, a5)] := by
    show [((2 : Nat), (4 : Int) + 0), (0, 0 + (1 * a0 + 0)), (0, 0 + (1 * a1 + 0)), (0, 0 + (1 * a2 + 0)), (0, 0 + (1 * a3 + 0)), (0, 0 + (1 * a4 + 0)), (0, 0 + (1 * a5 + 0))] = _
    simp only [show ∀ a : Int, (0 : Int) + (1 * a + 0) = a from fun a => by omega]
    rfl
  rw [e] at z
  refine MCal.mono ?_ z
  rintro ⟨o1, o2⟩ h' ⟨J', ρ', e1, e2, e3, e4, e5, e6, e7, e8, e9⟩
  have e2 : o1 = 1 ∧ o2 = (1, ρ' 200) := e2
  obtain ⟨rfl, rfl⟩ := e2
  exact ⟨rfl, rfl, J', e4⟩
set_option maxRecDepth 20000 in
theorem ap_X11_act_k1s1 {h : MH} (J : JJ zJ h) (a0 a1 a2 a3 a4 a5 : Int) (f0 : 0 ≤ -108 + 1 * a0) (f1 : 0 ≤ 108 - 1 * a0) (f2 : 0 ≤ -1 + 1 * gz h 35 0 + 1 * gz h 35 1) (f3 : 0 ≤ 1 - 1 * gz h 35 0 - 1 * gz h 35 1) (f4 : 0 ≤ 0 + 1 * a1 - 1 * gz h 35 2) : MCal KX11_act yX11_act 0 0 [(2, ((4 : Nat) : Int)), (0, a0), (0, a1), (0, a2), (0, a3), (0, a4), (0, a5)] h (mRL (fun _ h2 => JJ zJ h2 ∧ Frm (kMd ct_X11_act_k1s1) h h2)) := by
  have z := JJ.call2 (q := (KX11_act, yX11_act, 11, 6, 0)) ok_X11_act_k1s1 (by decide +kernel) rfl (ρ := (fun v => match v with
    | 0 => a0
    | 1 => a1
    | 2 => a2
    | 3 => a3
    | 4 => a4
    | 5 => a5
    | 50 => gz h 35 0
    | 51 => gz h 35 1
    | 52 => gz h 35 2
    | _ => 0)) J (List.forall_mem_cons.mpr ⟨rfl, (List.forall_mem_cons.mpr ⟨rfl, (List.forall_mem_cons.mpr ⟨rfl, (fun e he => absurd he List.not_mem_nil)⟩)⟩)⟩) (by
      intro f hf
      have hf : f ∈ [(((-108) : Int), [((0 : Nat), (1 : Int))]), ((108 : Int), [((0 : Nat), ((-1) : Int))]), (((-1) : Int), [((50 : Nat), (1 : Int)), ((51 : Nat), (1 : Int))]), ((1 : Int), [((50 : Nat), ((-1) : Int)), ((51 : Nat), ((-1) : Int))]), ((0 : Int), [((1 : Nat), (1 : Int)), ((52 : Nat), ((-1) : Int))])] := hf
      simp only [List.mem_cons, List.not_mem_nil, or_false] at hf
      rcases hf with rfl | rfl | rfl | rfl | rfl <;> simp only [zv, zl] <;> omega)
  have e : (kA ct_X11_act_k1s1).map (fun q => (q.1, zv (fun v => match v with
    | 0 => a0
    | 1 => a1
    | 2 => a2
    | 3 => a3
    | 4 => a4
    | 5 => a5
    | 50 => gz h 35 0
    | 51 => gz h 35 1
    | 52 => gz h 35 2
    | _ => 0) q.2)) = [(2, ((4 : Nat) : Int)), (0, a0), (0, a1), (0, a2), (0, a3), (0, a4), (0, a5)] := by
    show [((2 : Nat), (4 : Int) + 0), (0, 0 + (1 * a0 + 0)), (0, 0 + (1 * a1 + 0)), (0, 0 + (1 * a2 + 0)), (0, 0 + (1 * a3 + 0)), (0, 0 + (1 * a4 + 0)), (0, 0 + (1 * a5 + 0))] = _
    simp only [show ∀ a : Int, (0 : Int) + (1 * a + 0) = a from fun a => by omega]
    rfl
  rw [e] at z
  refine MCal.mono ?_ z
  rintro ⟨o1, o2⟩ h' ⟨J', ρ', e1, e2, e3, e4, e5, e6, e7, e8, e9⟩
  have e2 : o1 = 1 ∧ o2 = (1, ρ' 200) := e2
  obtain ⟨rfl, rfl⟩ := e2
  exact ⟨rfl, rfl, J', e4⟩
set_option maxRecDepth 20000 in
theorem ap_X11_act_k1s10 {h : MH} (J : JJ zJ h) (a0 a1 a2 a3 a4 a5 : Int) (f0 : 0 ≤ -108 + 1 * a0) (f1 : 0 ≤ 108 - 1 * a0) (f2 : 0 ≤ -10 + 1 * gz h 35 0 + 1 * gz h 35 1) (f3 : 0 ≤ 10 - 1 * gz h 35 0 - 1 * gz h 35 1) (f4 : 0 ≤ 0 + 1 * a1 - 10 * gz h 35 2) : MCal KX11_act yX11_act 0 0 [(2, ((4 : Nat) : Int)), (0, a0), (0, a1), (0, a2), (0, a3), (0, a4), (0, a5)] h (mRL (fun _ h2 => JJ zJ h2 ∧ Frm (kMd ct_X11_act_k1s10) h h2)) := by
  have z := JJ.call2 (q := (KX11_act, yX11_act, 11, 6, 0)) ok_X11_act_k1s10 (by decide +kernel) rfl (ρ := (fun v => match v with
    | 0 => a0
    | 1 => a1
    | 2 => a2
    | 3 => a3
    | 4 => a4
    | 5 => a5
    | 50 => gz h 35 0
    | 51 => gz h 35 1
    | 52 => gz h 35 2
    | _ => 0)) J (List.forall_mem_cons.mpr ⟨rfl, (List.forall_mem_cons.mpr ⟨rfl, (List.forall_mem_cons.mpr ⟨rfl, (fun e he => absurd he List.not_mem_nil)⟩)⟩)⟩) (by
      intro f hf
      have hf : f ∈ [(((-108) : Int), [((0 : Nat), (1 : Int))]), ((108 : Int), [((0 : Nat), ((-1) : Int))]), (((-10) : Int), [((50 : Nat), (1 : Int)), ((51 : Nat), (1 : Int))]), ((10 : Int), [((50 : Nat), ((-1) : Int)), ((51 : Nat), ((-1) : Int))]), ((0 : Int), [((1 : Nat), (1 : Int)), ((52 : Nat), ((-10) : Int))])] := hf
      simp only [List.mem_cons, List.not_mem_nil, or_false] at hf
      rcases hf with rfl | rfl | rfl | rfl | rfl <;> simp only [zv, zl] <;> omega)
  have e : (kA ct_X11_act_k1s10).map (fun q => (q.1, zv (fun v => match v with
    | 0 => a0
    | 1 => a1
    | 2 => a2
    | 3 => a3
    | 4 => a4
    | 5 => a5
    | 50 => gz h 35 0
    | 51 => gz h 35 1
    | 52 => gz h 35 2
    | _ => 0) q.2)) = [(2, ((4 : Nat) : Int)), (0, a0), (0, a1), (0, a2), (0, a3), (0, a4), (0, a5)] := by
    show [((2 : Nat), (4 : Int) + 0), (0, 0 + (1 * a0 + 0)), (0, 0 + (1 * a1 + 0)), (0, 0 + (1 * a2 + 0)), (0, 0 + (1 * a3 + 0)), (0, 0 + (1 * a4 + 0)), (0, 0 + (1 * a5 + 0))] = _
    simp only [show ∀ a : Int, (0 : Int) + (1 * a + 0) = a from fun a => by omega]
    rfl
  rw [e] at z
  refine MCal.mono ?_ z
  rintro ⟨o1, o2⟩ h' ⟨J', ρ', e1, e2, e3, e4, e5, e6, e7, e8, e9⟩
  have e2 : o1 = 1 ∧ o2 = (1, ρ' 200) := e2
  obtain ⟨rfl, rfl⟩ := e2
  exact ⟨rfl, rfl, J', e4⟩
set_option maxRecDepth 20000 in
theorem ap_X11_act_k1s11 {h : MH} (J : JJ zJ h) (a0 a1 a2 a3 a4 a5 : Int) (f0 : 0 ≤ -108 + 1 * a0) (f1 : 0 ≤ 108 - 1 * a0) (f2 : 0 ≤ -11 + 1 * gz h 35 0 + 1 * gz h 35 1) (f3 : 0 ≤ 11 - 1 * gz h 35 0 - 1 * gz h 35 1) (f4 : 0 ≤ 0 + 1 * a1 - 11 * gz h 35 2) : MCal KX11_act yX11_act 0 0 [(2, ((4 : Nat) : Int)), (0, a0), (0, a1), (0, a2), (0, a3), (0, a4), (0, a5)] h (mRL (fun _ h2 => JJ zJ h2 ∧ Frm (kMd ct_X11_act_k1s11) h h2)) := by
  have z := JJ.call2 (q := (KX11_act, yX11_act, 11, 6, 0)) ok_X11_act_k1s11 (by decide +kernel) rfl (ρ := (fun v => match v with
    | 0 => a0
    | 1 => a1
    | 2 => a2
    | 3 => a3
    | 4 => a4
    | 5 => a5
    | 50 => gz h 35 0
    | 51 => gz h 35 1
    | 52 => gz h 35 2
    | _ => 0)) J (List.forall_mem_cons.mpr ⟨rfl, (List.forall_mem_cons.mpr ⟨rfl, (List.forall_mem_cons.mpr ⟨rfl, (fun e he => absurd he List.not_mem_nil)⟩)⟩)⟩) (by
      intro f hf
      have hf : f ∈ [(((-108) : Int), [((0 : Nat), (1 : Int))]), ((108 : Int), [((0 : Nat), ((-1) : Int))]), (((-11) : Int), [((50 : Nat), (1 : Int)), ((51 : Nat), (1 : Int))]), ((11 : Int), [((50 : Nat), ((-1) : Int)), ((51 : Nat), ((-1) : Int))]), ((0 : Int), [((1 : Nat), (1 : Int)), ((52 : Nat), ((-11) : Int))])] := hf
      simp only [List.mem_cons, List.not_mem_nil, or_false] at hf
      rcases hf with rfl | rfl | rfl | rfl | rfl <;> simp only [zv, zl] <;> omega)
  have e : (kA ct_X11_act_k1s11).map (fun q => (q.1, zv (fun v => match v with
    | 0 => a0
    | 1 => a1
    | 2 => a2
    | 3 => a3
    | 4 => a4
    | 5 => a5
    | 50 => gz h 35 0
    | 51 => gz h 35 1
    | 52 => gz h 35 2
    | _ => 0) q.2)) = [(2, ((4 : Nat) : Int)), (0, a0), (0, a1), (0, a2), (0, a3), (0, a4), (0, a5)] := by
    show [((2 : Nat), (4 : Int) + 0), (0, 0 + (1 * a0 + 0)), (0, 0 + (1 * a1 + 0)), (0, 0 + (1 * a2 + 0)), (0, 0 + (1 * a3 + 0)), (0, 0 + (1 * a4 + 0)), (0, 0 + (1 * a5 + 0))] = _
    simp only [show ∀ a : Int, (0 : Int) + (1 * a + 0) = a from fun a => by omega]
    rfl
  rw [e] at z
  refine MCal.mono ?_ z
  rintro ⟨o1, o2⟩ h' ⟨J', ρ', e1, e2, e3, e4, e5, e6, e7, e8, e9⟩
  have e2 : o1 = 1 ∧ o2 = (1, ρ' 200) := e2
  obtain ⟨rfl, rfl⟩ := e2
  exact ⟨rfl, rfl, J', e4⟩
set_option maxRecDepth 20000 in
theorem ap_X11_act_k1s12 {h : MH} (J : JJ zJ h) (a0 a1 a2 a3 a4 a5 : Int) (f0 : 0 ≤ -108 + 1 * a0) (f1 : 0 ≤ 108 - 1 * a0) (f2 : 0 ≤ -12 + 1 * gz h 35 0 + 1 * gz h 35 1) (f3 : 0 ≤ 12 - 1 * gz h 35 0 - 1 * gz h 35 1) (f4 : 0 ≤ 0 + 1 * a1 - 12 * gz h 35 2) : MCal KX11_act yX11_act 0 0 [(2, ((4 : Nat) : Int)), (0, a0), (0, a1), (0, a2), (0, a3), (0, a4), (0, a5)] h (mRL (fun _ h2 => JJ zJ h2 ∧ Frm (kMd ct_X11_act_k1s12) h h2)) := by
  have z := JJ.call2 (q := (KX11_act, yX11_act, 11, 6, 0)) ok_X11_act_k1s12 (by decide +kernel) rfl (ρ := (fun v => match v with
    | 0 => a0
    | 1 => a1
    | 2 => a2
    | 3 => a3
    | 4 => a4
    | 5 => a5
    | 50 => gz h 35 0
    | 51 => gz h 35 1
    | 52 => gz h 35 2
    | _ => 0)) J (List.forall_mem_cons.mpr ⟨rfl, (List.forall_mem_cons.mpr ⟨rfl, (List.forall_mem_cons.mpr ⟨rfl, (fun e he => absurd he List.not_mem_nil)⟩)⟩)⟩) (by
      intro f hf
      have hf : f ∈ [(((-108) : Int), [((0 : Nat), (1 : Int))]), ((108 : Int), [((0 : Nat), ((-1) : Int))]), (((-12) : Int), [((50 : Nat), (1 : Int)), ((51 : Nat), (1 : Int))]), ((12 : Int), [((50 : Nat), ((-1) : Int)), ((51 : Nat), ((-1) : Int))]), ((0 : Int), [((1 : Nat), (1 : Int)), ((52 : Nat), ((-12) : Int))])] := hf
      simp only [List.mem_cons, List.not_mem_nil, or_false] at hf
      rcases hf with rfl | rfl | rfl | rfl | rfl <;> simp only [zv, zl] <;> omega)
  have e : (kA ct_X11_act_k1s12).map (fun q => (q.1, zv (fun v => match v with
    | 0 => a0
    | 1 => a1
    | 2 => a2
    | 3 => a3
    | 4 => a4
    | 5 => a5
    | 50 => gz h 35 0
    | 51 => gz h 35 1
    | 52 => gz h 35 2
    | _ => 0) q.2)) = [(2, ((4 : Nat) : Int)), (0, a0), (0, a1), (0, a2), (0, a3), (0, a4), (0, a5)] := by
    show [((2 : Nat), (4 : Int) + 0), (0, 0 + (1 * a0 + 0)), (0, 0 + (1 * a1 + 0)), (0, 0 + (1 * a2 + 0)), (0, 0 + (1 * a3 + 0)), (0, 0 + (1 * a4 + 0)), (0, 0 + (1 * a5 + 0))] = _
    simp only [show ∀ a : Int, (0 : Int) + (1 * a + 0) = a from fun a => by omega]
    rfl
  rw [e] at z
  refine MCal.mono ?_ z
  rintro ⟨o1, o2⟩ h' ⟨J', ρ', e1, e2, e3, e4, e5, e6, e7, e8, e9⟩
  have e2 : o1 = 1 ∧ o2 = (1, ρ' 200) := e2
  obtain ⟨rfl, rfl⟩ := e2
  exact ⟨rfl, rfl, J', e4⟩
