/-! the contracts of the calls that the law makes -/
set_option maxRecDepth 20000 in
theorem ap_X11_act_k1s2 {h : MH} (J : JJ zJ h) (a0 a1 a2 a3 a4 a5 : Int) (f0 : 0 ≤ -108 + 1 * a0) (f1 : 0 ≤ 108 - 1 * a0) (f2 : 0 ≤ -2 + 1 * gz h 35 0 + 1 * gz h 35 1) (f3 : 0 ≤ 2 - 1 * gz h 35 0 - 1 * gz h 35 1) (f4 : 0 ≤ 0 + 1 * a1 - 2 * gz h 35 2) : MCal KX11_act yX11_act 0 0 [(2, ((4 : Nat) : Int)), (0, a0), (0, a1), (0, a2), (0, a3), (0, a4), (0, a5)] h (mRL (fun _ h2 => JJ zJ h2 ∧ Frm (kMd ct_X11_act_k1s2) h h2)) := by
  have z := JJ.call2 (q := (KX11_act, yX11_act, 11, 6, 0)) ok_X11_act_k1s2 (by decide +kernel) rfl (ρ := (fun v => match v with
    | 0 => a0
    | 1 => a1
    | 2 => a2
    | 3 => a3
    | 4 => a4
    | 5 => a5
    | 50 => gz h 35 0
    | 51 => gz h 35 1
    | 52 => gz h 35 2
    | _ => 0)) J (List.forall_mem_cons.mpr ⟨rfl, (List.forall_mem_cons.mpr ⟨rfl, (List.forall_mem_cons.mpr ⟨rfl, (fun e he => absurd he List.not_mem_nil)⟩)⟩)⟩) (by
      intro f hf
      have hf : f ∈ [(((-108) : Int), [((0 : Nat), (1 : Int))]), ((108 : Int), [((0 : Nat), ((-1) : Int))]), (((-2) : Int), [((50 : Nat), (1 : Int)), ((51 : Nat), (1 : Int))]), ((2 : Int), [((50 : Nat), ((-1) : Int)), ((51 : Nat), ((-1) : Int))]), ((0 : Int), [((1 : Nat), (1 : Int)), ((52 : Nat), ((-2) : Int))])] := hf
      simp only [List.mem_cons, List.not_mem_nil, or_false] at hf
      rcases hf with rfl | rfl | rfl | rfl | rfl <;> simp only [zv, zl] <;> omega)
  have e : (kA ct_X11_act_k1s2).map (fun q => (q.1, zv (fun v => match v with
    | 0 => a0
    | 1 => a1
    | 2 => a2
    | 3 => a3
    | 4 => a4
    | 5 => a5
    | 50 => gz h 35 0
    | 51 => gz h 35 1
    | 52 => gz h 35 2
    | _ => 0) q.2)) = [(2, ((4 : Nat) : Int)), (0, a0), (0, a1), (0, a2), (0, a3), (0, a4), (0, a5)] := by
    show [((2 : Nat), (4 : Int) + 0), (0, 0 + (1 * a0 + 0)), (0, 0 + (1 * a1 + 0)), (0, 0 + (1 * a2 + 0)), (0, 0 + (1 * a3 + 0)), (0, 0 + (1 * a4 + 0)), (0, 0 + (1 * a5 + 0))] = _
    simp only [show ∀ a : Int, (0 : Int) + (1 * a + 0) = a from fun a => by omega]
    rfl
  rw [e] at z
  refine MCal.mono ?_ z
  rintro ⟨o1, o2⟩ h' ⟨J', ρ', e1, e2, e3, e4, e5, e6, e7, e8, e9⟩
  have e2 : o1 = 1 ∧ o2 = (1, ρ' 200) := e2
  obtain ⟨rfl, rfl⟩ := e2
  exact ⟨rfl, rfl, J', e4⟩
set_option maxRecDepth 20000 in
theorem ap_X11_act_k1s3 {h : MH} (J : JJ zJ h) (a0 a1 a2 a3 a4 a5 : Int) (f0 : 0 ≤ -108 + 1 * a0) (f1 : 0 ≤ 108 - 1 * a0) (f2 : 0 ≤ -3 + 1 * gz h 35 0 + 1 * gz h 35 1) (f3 : 0 ≤ 3 - 1 * gz h 35 0 - 1 * gz h 35 1) (f4 : 0 ≤ 0 + 1 * a1 - 3 * gz h 35 2) : MCal KX11_act yX11_act 0 0 [(2, ((4 : Nat) : Int)), (0, a0), (0, a1), (0, a2), (0, a3), (0, a4), (0, a5)] h (mRL (fun _ h2 => JJ zJ h2 ∧ Frm (kMd ct_X11_act_k1s3) h h2)) := by
  have z := JJ.call2 (q := (KX11_act, yX11_act, 11, 6, 0)) ok_X11_act_k1s3 (by decide +kernel) rfl (ρ := (fun v => match v with
    | 0 => a0
    | 1 => a1
    | 2 => a2
    | 3 => a3
    | 4 => a4
    | 5 => a5
    | 50 => gz h 35 0
    | 51 => gz h 35 1
    | 52 => gz h 35 2
    | _ => 0)) J (List.forall_mem_cons.mpr ⟨rfl, (List.forall_mem_cons.mpr ⟨rfl, (List.forall_mem_cons.mpr ⟨rfl, (fun e he => absurd he List.not_mem_nil)⟩)⟩)⟩) (by
      intro f hf
      have hf : f ∈ [(((-108) : Int), [((0 : Nat), (1 : Int))]), ((108 : Int), [((0 : Nat), ((-1) : Int))]), (((-3) : Int), [((50 : Nat), (1 : Int)), ((51 : Nat), (1 : Int))]), ((3 : Int), [((50 : Nat), ((-1) : Int)), ((51 : Nat), ((-1) : Int))]), ((0 : Int), [((1 : Nat), (1 : Int)), ((52 : Nat), ((-3) : Int))])] := hf
      simp only [List.mem_cons, List.not_mem_nil, or_false] at hf
      rcases hf with rfl | rfl | rfl | rfl | rfl <;> simp only [zv, zl] <;> omega)
  have e : (kA ct_X11_act_k1s3).map (fun q => (q.1, zv (fun v => match v with
    | 0 => a0
    | 1 => a1
    | 2 => a2
    | 3 => a3
    | 4 => a4
    | 5 => a5
    | 50 => gz h 35 0
    | 51 => gz h 35 1
    | 52 => gz h 35 2
    | _ => 0) q.2)) = [(2, ((4 : Nat) : Int)), (0, a0), (0, a1), (0, a2), (0, a3), (0, a4), (0, a5)] := by
    show [((2 : Nat), (4 : Int) + 0), (0, 0 + (1 * a0 + 0)), (0, 0 + (1 * a1 + 0)), (0, 0 + (1 * a2 + 0)), (0, 0 + (1 * a3 + 0)), (0, 0 + (1 * a4 + 0)), (0, 0 + (1 * a5 + 0))] = _
    simp only [show ∀ a : Int, (0 : Int) + (1 * a + 0) = a from fun a => by omega]
    rfl
  rw [e] at z
  refine MCal.mono ?_ z
  rintro ⟨o1, o2⟩ h' ⟨J', ρ', e1, e2, e3, e4, e5, e6, e7, e8, e9⟩
  have e2 : o1 = 1 ∧ o2 = (1, ρ' 200) := e2
  obtain ⟨rfl, rfl⟩ := e2
  exact ⟨rfl, rfl, J', e4⟩
set_option maxRecDepth 20000 in
theorem ap_X11_act_k1s4 {h : MH} (J : JJ zJ h) (a0 a1 a2 a3 a4 a5 : Int) (f0 : 0 ≤ -108 + 1 * a0) (f1 : 0 ≤ 108 - 1 * a0) (f2 : 0 ≤ -4 + 1 * gz h 35 0 + 1 * gz h 35 1) (f3 : 0 ≤ 4 - 1 * gz h 35 0 - 1 * gz h 35 1) (f4 : 0 ≤ 0 + 1 * a1 - 4 * gz h 35 2) : MCal KX11_act yX11_act 0 0 [(2, ((4 : Nat) : Int)), (0, a0), (0, a1), (0, a2), (0, a3), (0, a4), (0, a5)] h (mRL (fun _ h2 => JJ zJ h2 ∧ Frm (kMd ct_X11_act_k1s4) h h2)) := by
  have z := JJ.call2 (q := (KX11_act, yX11_act, 11, 6, 0)) ok_X11_act_k1s4 (by decide +kernel) rfl (ρ := (fun v => match v with
    | 0 => a0
    | 1 => a1
    | 2 => a2
    | 3 => a3
    | 4 => a4
    | 5 => a5
    | 50 => gz h 35 0
    | 51 => gz h 35 1
    | 52 => gz h 35 2
    | _ => 0)) J (List.forall_mem_cons.mpr ⟨rfl, (List.forall_mem_cons.mpr ⟨rfl, (List.forall_mem_cons.mpr ⟨rfl, (fun e he => absurd he List.not_mem_nil)⟩)⟩)⟩) (by
      intro f hf
      have hf : f ∈ [(((-108) : Int), [((0 : Nat), (1 : Int))]), ((108 : Int), [((0 : Nat), ((-1) : Int))]), (((-4) : Int), [((50 : Nat), (1 : Int)), ((51 : Nat), (1 : Int))]), ((4 : Int), [((50 : Nat), ((-1) : Int)), ((51 : Nat), ((-1) : Int))]), ((0 : Int), [((1 : Nat), (1 : Int)), ((52 : Nat), ((-4) : Int))])] := hf
      simp only [List.mem_cons, List.not_mem_nil, or_false] at hf
      rcases hf with rfl | rfl | rfl | rfl | rfl <;> simp only [zv, zl] <;> omega)
  have e : (kA ct_X11_act_k1s4).map (fun q => (q.1, zv (fun v => match v with
    | 0 => a0
    | 1 => a1
    | 2 => a2
    | 3 => a3
    | 4 => a4
    | 5 => a5
    | 50 => gz h 35 0
    | 51 => gz h 35 1
    | 52 => gz h 35 2
    | _ => 0) q.2)) = [(2, ((4 : Nat) : Int)), (0, a0), (0, a1), (0, a2), (0, a3), (0, a4), (0, a5)] := by
    show [((2 : Nat), (4 : Int) + 0), (0, 0 + (1 * a0 + 0)), (0, 0 + (1 * a1 + 0)), (0, 0 + (1 * a2 + 0)), (0, 0 + (1 * a3 + 0)), (0, 0 + (1 * a4 + 0)), (0, 0 + (1 * a5 + 0))] = _
    simp only [show ∀ a : Int, (0 : Int) + (1 * a + 0) = a from fun a => by omega]
    rfl
  rw [e] at z
  refine MCal.mono ?_ z
  rintro ⟨o1, o2⟩ h' ⟨J', ρ', e1, e2, e3, e4, e5, e6, e7, e8, e9⟩
  have e2 : o1 = 1 ∧ o2 = (1, ρ' 200) := e2
  obtain ⟨rfl, rfl⟩ := e2
  exact ⟨rfl, rfl, J', e4⟩
set_option maxRecDepth 20000 in
theorem ap_X11_act_k1s5 {h : MH} (J : JJ zJ h) (a0 a1 a2 a3 a4 a5 : Int) (f0 : 0 ≤ -108 + 1 * a0) (f1 : 0 ≤ 108 - 1 * a0) (f2 : 0 ≤ -5 + 1 * gz h 35 0 + 1 * gz h 35 1) (f3 : 0 ≤ 5 - 1 * gz h 35 0 - 1 * gz h 35 1) (f4 : 0 ≤ 0 + 1 * a1 - 5 * gz h 35 2) : MCal KX11_act yX11_act 0 0 [(2, ((4 : Nat) : Int)), (0, a0), (0, a1), (0, a2), (0, a3), (0, a4), (0, a5)] h (mRL (fun _ h2 => JJ zJ h2 ∧ Frm (kMd ct_X11_act_k1s5) h h2)) := by
  have z := JJ.call2 (q := (KX11_act, yX11_act, 11, 6, 0)) ok_X11_act_k1s5 (by decide +kernel) rfl (ρ := (fun v => match v with
    | 0 => a0
    | 1 => a1
    | 2 => a2
    | 3 => a3
    | 4 => a4
    | 5 => a5
    | 50 => gz h 35 0
    | 51 => gz h 35 1
    | 52 => gz h 35 2
    | _ => 0)) J (List.forall_mem_cons.mpr ⟨rfl, (List.forall_mem_cons.mpr ⟨rfl, (List.forall_mem_cons.mpr ⟨rfl, (fun e he => absurd he List.not_mem_nil)⟩)⟩)⟩) (by
      intro f hf
      have hf : f ∈ [(((-108) : Int), [((0 : Nat), (1 : Int))]), ((108 : Int), [((0 : Nat), ((-1) : Int))]), (((-5) : Int), [((50 : Nat), (1 : Int)), ((51 : Nat), (1 : Int))]), ((5 : Int), [((50 : Nat), ((-1) : Int)), ((51 : Nat), ((-1) : Int))]), ((0 : Int), [((1 : Nat), (1 : Int)), ((52 : Nat), ((-5) : Int))])] := hf
      simp only [List.mem_cons, List.not_mem_nil, or_false] at hf
      rcases hf with rfl | rfl | rfl | rfl | rfl <;> simp only [zv, zl] <;> omega)
  have e : (kA ct_X11_act_k1s5).map (fun q => (q.1, zv (fun v => match v with
    | 0 => a0
    | 1 => a1
    | 2 => a2
    | 3 => a3
    | 4 => a4
    | 5 => a5
    | 50 => gz h 35 0
    | 51 => gz h 35 1
    | 52 => gz h 35 2
    | _ => 0) q.2)) = [(2, ((4 : Nat) : Int)), (0, a0), (0, a1), (0, a2), (0, a3), (0, a4), (0, a5)] := by
    show [((2 : Nat), (4 : Int) + 0), (0, 0 + (1 * a0 + 0)), (0, 0 + (1 * a1 + 0)), (0, 0 + (1 * a2 + 0)), (0, 0 + (1 * a3 + 0)), (0, 0 + (1 * a4 + 0)), (0, 0 + (1 * a5 + 0))] = _
    simp only [show ∀ a : Int, (0 : Int) + (1 * a + 0) = a from fun a => by omega]
    rfl
  rw [e] at z
  refine MCal.mono ?_ z
  rintro ⟨o1, o2⟩ h' ⟨J', ρ', e1, e2, e3, e4, e5, e6, e7, e8, e9⟩
  have e2 : o1 = 1 ∧ o2 = (1, ρ' 200) := e2
  obtain ⟨rfl, rfl⟩ := e2
  exact ⟨rfl, rfl, J', e4⟩
set_option maxRecDepth 20000 in
theorem ap_X11_act_k1s6 {h : MH} (J : JJ zJ h) (a0 a1 a2 a3 a4 a5 : Int) (f0 : 0 ≤ -108 + 1 * a0) (f1 : 0 ≤ 108 - 1 * a0) (f2 : 0 ≤ -6 + 1 * gz h 35 0 + 1 * gz h 35 1) (f3 : 0 ≤ 6 - 1 * gz h 35 0 - 1 * gz h 35 1) (f4 : 0 ≤ 0 + 1 * a1 - 6 * gz h 35 2) : MCal KX11_act yX11_act 0 0 [(2, ((4 : Nat) : Int)), (0, a0), (0, a1), (0, a2), (0, a3), (0, a4), (0, a5)] h (mRL (fun _ h2 => JJ zJ h2 ∧ Frm (kMd ct_X11_act_k1s6) h h2)) := by
  have z := JJ.call2 (q := (KX11_act, yX11_act, 11, 6, 0)) ok_X11_act_k1s6 (by decide +kernel) rfl (ρ := (fun v => match v with
    | 0 => a0
    | 1 => a1
    | 2 => a2
    | 3 => a3
    | 4 => a4
    | 5 => a5
    | 50 => gz h 35 0
    | 51 => gz h 35 1
    | 52 => gz h 35 2
    | _ => 0)) J (List.forall_mem_cons.mpr ⟨rfl, (List.forall_mem_cons.mpr ⟨rfl, (List.forall_mem_cons.mpr ⟨rfl, (fun e he => absurd he List.not_mem_nil)⟩)⟩)⟩) (by
      intro f hf
      have hf : f ∈ [(((-108) : Int), [((0 : Nat), (1 : Int))]), ((108 : Int), [((0 : Nat), ((-1) : Int))]), (((-6) : Int), [((50 : Nat), (1 : Int)), ((51 : Nat), (1 : Int))]), ((6 : Int), [((50 : Nat), ((-1) : Int)), ((51 : Nat), ((-1) : Int))]), ((0 : Int), [((1 : Nat), (1 : Int)), ((52 : Nat), ((-6) : Int))])] := hf
      simp only [List.mem_cons, List.not_mem_nil, or_false] at hf
      rcases hf with rfl | rfl | rfl | rfl | rfl <;> simp only [zv, zl] <;> omega)
  have e : (kA ct_X11_act_k1s6).map (fun q => (q.1, zv (fun v => match v with
    | 0 => a0
    | 1 => a1
    | 2 => a2
    | 3 => a3
    | 4 => a4
    | 5 => a5
    | 50 => gz h 35 0
    | 51 => gz h 35 1
    | 52 => gz h 35 2
    | _ => 0) q.2)) = [(2, ((4 : Nat) : Int)), (0, a0), (0, a1), (0, a2), (0, a3), (0, a4), (0, a5)] := by
    show [((2 : Nat), (4 : Int) + 0), (0, 0 + (1 * a0 + 0)), (0, 0 + (1 * a1 + 0)), (0, 0 + (1 * a2 + 0)), (0, 0 + (1 * a3 + 0)), (0, 0 + (1 * a4 + 0)), (0, 0 + (1 * a5 + 0))] = _
    simp only [show ∀ a : Int, (0 : Int) + (1 * a + 0) = a from fun a => by omega]
    rfl
  rw [e] at z
  refine MCal.mono ?_ z
  rintro ⟨o1, o2⟩ h' ⟨J', ρ', e1, e2, e3, e4, e5, e6, e7, e8, e9⟩
  have e2 : o1 = 1 ∧ o2 = (1, ρ' 200) := e2
  obtain ⟨rfl, rfl⟩ := e2
  exact ⟨rfl, rfl, J', e4⟩
set_option maxRecDepth 20000 in
theorem ap_X11_act_k1s7 {h : MH} (J : JJ zJ h) (a0 a1 a2 a3 a4 a5 : Int) (f0 : 0 ≤ -108 + 1 * a0) (f1 : 0 ≤ 108 - 1 * a0) (f2 : 0 ≤ -7 + 1 * gz h 35 0 + 1 * gz h 35 1) (f3 : 0 ≤ 7 - 1 * gz h 35 0 - 1 * gz h 35 1) (f4 : 0 ≤ 0 + 1 * a1 - 7 * gz h 35 2) : MCal KX11_act yX11_act 0 0 [(2, ((4 : Nat) : Int)), (0, a0), (0, a1), (0, a2), (0, a3), (0, a4), (0, a5)] h (mRL (fun _ h2 => JJ zJ h2 ∧ Frm (kMd ct_X11_act_k1s7) h h2)) := by
  have z := JJ.call2 (q := (KX11_act, yX11_act, 11, 6, 0)) ok_X11_act_k1s7 (by decide +kernel) rfl (ρ := (fun v => match v with
    | 0 => a0
    | 1 => a1
    | 2 => a2
    | 3 => a3
    | 4 => a4
    | 5 => a5
    | 50 => gz h 35 0
    | 51 => gz h 35 1
    | 52 => gz h 35 2
    | _ => 0)) J (List.forall_mem_cons.mpr ⟨rfl, (List.forall_mem_cons.mpr ⟨rfl, (List.forall_mem_cons.mpr ⟨rfl, (fun e he => absurd he List.not_mem_nil)⟩)⟩)⟩) (by
      intro f hf
      have hf : f ∈ [(((-108) : Int), [((0 : Nat), (1 : Int))]), ((108 : Int), [((0 : Nat), ((-1) : Int))]), (((-7) : Int), [((50 : Nat), (1 : Int)), ((51 : Nat), (1 : Int))]), ((7 : Int), [((50 : Nat), ((-1) : Int)), ((51 : Nat), ((-1) : Int))]), ((0 : Int), [((1 : Nat), (1 : Int)), ((52 : Nat), ((-7) : Int))])] := hf
      simp only [List.mem_cons, List.not_mem_nil, or_false] at hf
      rcases hf with rfl | rfl | rfl | rfl | rfl <;> simp only [zv, zl] <;> omega)
  have e : (kA ct_X11_act_k1s7).map (fun q => (q.1, zv (fun v => match v with
    | 0 => a0
    | 1 => a1
    | 2 => a2
    | 3 => a3
    | 4 => a4
    | 5 => a5
    | 50 => gz h 35 0
    | 51 => gz h 35 1
    | 52 => gz h 35 2
    | _ => 0) q.2)) = [(2, ((4 : Nat) : Int)), (0, a0), (0, a1), (0, a2), (0, a3), (0, a4), (0, a5)] := by
    show [((2 : Nat), (4 : Int) + 0), (0, 0 + (1 * a0 + 0)), (0, 0 + (1 * a1 + 0)), (0, 0 + (1 * a2 + 0)), (0, 0 + (1 * a3 + 0)), (0, 0 + (1 * a4 + 0)), (0, 0 + (1 * a5 + 0))] = _
    simp only [show ∀ a : Int, (0 : Int) + (1 * a + 0) = a from fun a => by omega]
    rfl
  rw [e] at z
  refine MCal.mono ?_ z
  rintro ⟨o1, o2⟩ h' ⟨J', ρ', e1, e2, e3, e4, e5, e6, e7, e8, e9⟩
  have e2 : o1 = 1 ∧ o2 = (1, ρ' 200) := e2
  obtain ⟨rfl, rfl⟩ := e2
  exact ⟨rfl, rfl, J', e4⟩
set_option maxRecDepth 20000 in
theorem ap_X11_act_k1s8 {h : MH} (J : JJ zJ h) (a0 a1 a2 a3 a4 a5 : Int) (f0 : 0 ≤ -108 + 1 * a0) (f1 : 0 ≤ 108 - 1 * a0) (f2 : 0 ≤ -8 + 1 * gz h 35 0 + 1 * gz h 35 1) (f3 : 0 ≤ 8 - 1 * gz h 35 0 - 1 * gz h 35 1) (f4 : 0 ≤ 0 + 1 * a1 - 8 * gz h 35 2) : MCal KX11_act yX11_act 0 0 [(2, ((4 : Nat) : Int)), (0, a0), (0, a1), (0, a2), (0, a3), (0, a4), (0, a5)] h (mRL (fun _ h2 => JJ zJ h2 ∧ Frm (kMd ct_X11_act_k1s8) h h2)) := by
  have z := JJ.call2 (q := (KX11_act, yX11_act, 11, 6, 0)) ok_X11_act_k1s8 (by decide +kernel) rfl (ρ := (fun v => match v with
    | 0 => a0
    | 1 => a1
    | 2 => a2
    | 3 => a3
    | 4 => a4
    | 5 => a5
    | 50 => gz h 35 0
    | 51 => gz h 35 1
    | 52 => gz h 35 2
    | _ => 0)) J (List.forall_mem_cons.mpr ⟨rfl, (List.forall_mem_cons.mpr ⟨rfl, (List.forall_mem_cons.mpr ⟨rfl, (fun e he => absurd he List.not_mem_nil)⟩)⟩)⟩) (by
      intro f hf
      have hf : f ∈ [(((-108) : Int), [((0 : Nat), (1 : Int))]), ((108 : Int), [((0 : Nat), ((-1) : Int))]), (((-8) : Int), [((50 : Nat), (1 : Int)), ((51 : Nat), (1 : Int))]), ((8 : Int), [((50 : Nat), ((-1) : Int)), ((51 : Nat), ((-1) : Int))]), ((0 : Int), [((1 : Nat), (1 : Int)), ((52 : Nat), ((-8) : Int))])] := hf
      simp only [List.mem_cons, List.not_mem_nil, or_false] at hf
      rcases hf with rfl | rfl | rfl | rfl | rfl <;> simp only [zv, zl] <;> omega)
  have e : (kA ct_X11_act_k1s8).map (fun q => (q.1, zv (fun v => match v with
    | 0 => a0
    | 1 => a1
    | 2 => a2
    | 3 => a3
    | 4 => a4
    | 5 => a5
    | 50 => gz h 35 0
    | 51 => gz h 35 1
    | 52 => gz h 35 2
    | _ => 0) q.2)) = [(2, ((4 : Nat) : Int)), (0, a0), (0, a1), (0, a2), (0, a3), (0, a4), (0, a5)] := by
    show [((2 : Nat), (4 : Int) + 0), (0, 0 + (1 * a0 + 0)), (0, 0 + (1 * a1 + 0)), (0, 0 + (1 * a2 + 0)), (0, 0 + (1 * a3 + 0)), (0, 0 + (1 * a4 + 0)), (0, 0 + (1 * a5 + 0))] = _
    simp only [show ∀ a : Int, (0 : Int) + (1 * a + 0) = a from fun a => by omega]
    rfl
  rw [e] at z
  refine MCal.mono ?_ z
  rintro ⟨o1, o2⟩ h' ⟨J', ρ', e1, e2, e3, e4, e5, e6, e7, e8, e9⟩
  have e2 : o1 = 1 ∧ o2 = (1, ρ' 200) := e2
  obtain ⟨rfl, rfl⟩ := e2
  exact ⟨rfl, rfl, J', e4⟩
set_option maxRecDepth 20000 in
theorem ap_X11_act_k1s9 {h : MH} (J : JJ zJ h) (a0 a1 a2 a3 a4 a5 : Int) (f0 : 0 ≤ -108 + 1 * a0) (f1 : 0 ≤ 108 - 1 * a0) (f2 : 0 ≤ -9 + 1 * gz h 35 0 + 1 * gz h 35 1) (f3 : 0 ≤ 9 - 1 * gz h 35 0 - 1 * gz h 35 1) (f4 : 0 ≤ 0 + 1 * a1 - 9 * gz h 35 2) : MCal KX11_act yX11_act 0 0 [(2, ((4 : Nat) : Int)), (0, a0), (0, a1), (0, a2), (0, a3), (0, a4), (0, a5)] h (mRL (fun _ h2 => JJ zJ h2 ∧ Frm (kMd ct_X11_act_k1s9) h h2)) := by
  have z := JJ.call2 (q := (KX11_act, yX11_act, 11, 6, 0)) ok_X11_act_k1s9 (by decide +kernel) rfl (ρ := (fun v => match v with
    | 0 => a0
    | 1 => a1
    | 2 => a2
    | 3 => a3
    | 4 => a4
    | 5 => a5
    | 50 => gz h 35 0
    | 51 => gz h 35 1
    | 52 => gz h 35 2
    | _ => 0)) J (List.forall_mem_cons.mpr ⟨rfl, (List.forall_mem_cons.mpr ⟨rfl, (List.forall_mem_cons.mpr ⟨rfl, (fun e he => absurd he List.not_mem_nil)⟩)⟩)⟩) (by
      intro f hf
      have hf : f ∈ [(((-108) : Int), [((0 : Nat), (1 : Int))]), ((108 : Int), [((0 : Nat), ((-1) : Int))]), (((-9) : Int), [((50 : Nat), (1 : Int)), ((51 : Nat), (1 : Int))]), ((9 : Int), [((50 : Nat), ((-1) : Int)), ((51 : Nat), ((-1) : Int))]), ((0 : Int), [((1 : Nat), (1 : Int)), ((52 : Nat), ((-9) : Int))])] := hf
      simp only [List.mem_cons, List.not_mem_nil, or_false] at hf
      rcases hf with rfl | rfl | rfl | rfl | rfl <;> simp only [zv, zl] <;> omega)
  have e : (kA ct_X11_act_k1s9).map (fun q => (q.1, zv (fun v => match v with
    | 0 => a0
    | 1 => a1
    | 2 => a2
    | 3 => a3
    | 4 => a4
    | 5 => a5
    | 50 => gz h 35 0
    | 51 => gz h 35 1
    | 52 => gz h 35 2
    | _ => 0) q.2)) = [(2, ((4 : Nat) : Int)), (0, a0), (0, a1), (0, a2), (0, a3), (0, a4), (0, a5)] := by
    show [((2 : Nat), (4 : Int) + 0), (0, 0 + (1 * a0 + 0)), (0, 0 + (1 * a1 + 0)), (0, 0 + (1 * a2 + 0)), (0, 0 + (1 * a3 + 0)), (0, 0 + (1 * a4 + 0)), (0, 0 + (1 * a5 + 0))] = _
    simp only [show ∀ a : Int, (0 : Int) + (1 * a + 0) = a from fun a => by omega]
    rfl
  rw [e] at z
  refine MCal.mono ?_ z
  rintro ⟨o1, o2⟩ h' ⟨J', ρ', e1, e2, e3, e4, e5, e6, e7, e8, e9⟩
  have e2 : o1 = 1 ∧ o2 = (1, ρ' 200) := e2
  obtain ⟨rfl, rfl⟩ := e2
  exact ⟨rfl, rfl, J', e4⟩
set_option maxRecDepth 20000 in
theorem ap_X11_act_k2hi {h : MH} (J : JJ zJ h) (a0 a1 a2 a3 a4 a5 : Int) (f0 : 0 ≤ -205 + 1 * a0) (f1 : 0 ≤ 299 - 1 * a0) : MCal KX11_act yX11_act 0 0 [(2, ((4 : Nat) : Int)), (0, a0), (0, a1), (0, a2), (0, a3), (0, a4), (0, a5)] h (mRL (fun _ h2 => JJ zJ h2 ∧ Frm (kMd ct_X11_act_k2hi) h h2)) := by
  have z := JJ.call2 (q := (KX11_act, yX11_act, 11, 6, 0)) ok_X11_act_k2hi (by decide +kernel) rfl (ρ := (fun v => match v with
    | 0 => a0
    | 1 => a1
    | 2 => a2
    | 3 => a3
    | 4 => a4
    | 5 => a5
    | _ => 0)) J (fun e he => absurd he List.not_mem_nil) (by
      intro f hf
      have hf : f ∈ [(((-205) : Int), [((0 : Nat), (1 : Int))]), ((299 : Int), [((0 : Nat), ((-1) : Int))])] := hf
      simp only [List.mem_cons, List.not_mem_nil, or_false] at hf
      rcases hf with rfl | rfl <;> simp only [zv, zl] <;> omega)
  have e : (kA ct_X11_act_k2hi).map (fun q => (q.1, zv (fun v => match v with
    | 0 => a0
    | 1 => a1
    | 2 => a2
    | 3 => a3
    | 4 => a4
    | 5 => a5
    | _ => 0) q.2)) = [(2, ((4 : Nat) : Int)), (0, a0), (0, a1), (0, a2), (0, a3), (0, a4), (0, a5)] := by
    show [((2 : Nat), (4 : Int) + 0), (0, 0 + (1 * a0 + 0)), (0, 0 + (1 * a1 + 0)), (0, 0 + (1 * a2 + 0)), (0, 0 + (1 * a3 + 0)), (0, 0 + (1 * a4 + 0)), (0, 0 + (1 * a5 + 0))] = _
    simp only [show ∀ a : Int, (0 : Int) + (1 * a + 0) = a from fun a => by omega]
    rfl
  rw [e] at z
  refine MCal.mono ?_ z
  rintro ⟨o1, o2⟩ h' ⟨J', ρ', e1, e2, e3, e4, e5, e6, e7, e8, e9⟩
  have e2 : o1 = 1 ∧ o2 = (1, ρ' 200) := e2
  obtain ⟨rfl, rfl⟩ := e2
  exact ⟨rfl, rfl, J', e4⟩
