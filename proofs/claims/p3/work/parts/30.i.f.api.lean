/-! the contracts of the calls that the law makes -/
set_option maxRecDepth 20000 in
theorem ap_X11_act_k5m0 {h : MH} (J : JJ zJ h) (a0 a1 a2 a3 a4 a5 : Int) (f0 : 0 ≤ -500 + 1 * a0) (f1 : 0 ≤ 500 - 1 * a0) (f2 : 0 ≤ -1 + 1 * a1) (f3 : 0 ≤ 6 - 1 * a1) : MCal KX11_act yX11_act 0 0 [(2, ((4 : Nat) : Int)), (0, a0), (0, a1), (0, a2), (0, a3), (0, a4), (0, a5)] h (mRL (fun _ h2 => JJ zJ h2 ∧ Frm (kMd ct_X11_act_k5m0) h h2)) := by
  have z := JJ.call2 (q := (KX11_act, yX11_act, 11, 6, 0)) ok_X11_act_k5m0 (by decide +kernel) rfl (ρ := (fun v => match v with
    | 0 => a0
    | 1 => a1
    | 2 => a2
    | 3 => a3
    | 4 => a4
    | 5 => a5
    | _ => 0)) J (fun e he => absurd he List.not_mem_nil) (by
      intro f hf
      have hf : f ∈ [(((-500) : Int), [((0 : Nat), (1 : Int))]), ((500 : Int), [((0 : Nat), ((-1) : Int))]), (((-1) : Int), [((1 : Nat), (1 : Int))]), ((6 : Int), [((1 : Nat), ((-1) : Int))])] := hf
      simp only [List.mem_cons, List.not_mem_nil, or_false] at hf
      rcases hf with rfl | rfl | rfl | rfl <;> simp only [zv, zl] <;> omega)
  have e : (kA ct_X11_act_k5m0).map (fun q => (q.1, zv (fun v => match v with
    | 0 => a0
    | 1 => a1
    | 2 => a2
    | 3 => a3
    | 4 => a4
    | 5 => a5
    | _ => 0) q.2)) = [(2, ((4 : Nat) : Int)), (0, a0), (0, a1), (0, a2), (0, a3), (0, a4), (0, a5)] := by
    show [((2 : Nat), (4 : Int) + 0), (0, 0 + (1 * a0 + 0)), (0, 0 + (1 * a1 + 0)), (0, 0 + (1 * a2 + 0)), (0, 0 + (1 * a3 + 0)), (0, 0 + (1 * a4 + 0)), (0, 0 + (1 * a5 + 0))] = _
    simp only [show ∀ a : Int, (0 : Int) + (1 * a + 0) = a from fun a => by omega]
    rfl
  rw [e] at z
  refine MCal.mono ?_ z
  rintro ⟨o1, o2⟩ h' ⟨J', ρ', e1, e2, e3, e4, e5, e6, e7, e8, e9⟩
  have e2 : o1 = 1 ∧ o2 = (1, ρ' 200) := e2
  obtain ⟨rfl, rfl⟩ := e2
  exact ⟨rfl, rfl, J', e4⟩
set_option maxRecDepth 20000 in
theorem ap_X11_act_k5m1 {h : MH} (J : JJ zJ h) (a0 a1 a2 a3 a4 a5 : Int) (f0 : 0 ≤ -501 + 1 * a0) (f1 : 0 ≤ 501 - 1 * a0) (f2 : 0 ≤ 0 + 1 * a1) (f3 : 0 ≤ -1 - 1 * a1 + 1 * gz h 833 0) (f4 : 0 ≤ 0 + 1 * a2) (f5 : 0 ≤ -1 - 1 * a2 + 1 * gz h 833 0) : MCal KX11_act yX11_act 0 0 [(2, ((4 : Nat) : Int)), (0, a0), (0, a1), (0, a2), (0, a3), (0, a4), (0, a5)] h (mRL (fun _ h2 => JJ zJ h2 ∧ Frm (kMd ct_X11_act_k5m1) h h2)) := by
  have z := JJ.call2 (q := (KX11_act, yX11_act, 11, 6, 0)) ok_X11_act_k5m1 (by decide +kernel) rfl (ρ := (fun v => match v with
    | 0 => a0
    | 1 => a1
    | 2 => a2
    | 3 => a3
    | 4 => a4
    | 5 => a5
    | 50 => gz h 833 0
    | _ => 0)) J (List.forall_mem_cons.mpr ⟨rfl, (fun e he => absurd he List.not_mem_nil)⟩) (by
      intro f hf
      have hf : f ∈ [(((-501) : Int), [((0 : Nat), (1 : Int))]), ((501 : Int), [((0 : Nat), ((-1) : Int))]), ((0 : Int), [((1 : Nat), (1 : Int))]), (((-1) : Int), [((1 : Nat), ((-1) : Int)), ((50 : Nat), (1 : Int))]), ((0 : Int), [((2 : Nat), (1 : Int))]), (((-1) : Int), [((2 : Nat), ((-1) : Int)), ((50 : Nat), (1 : Int))])] := hf
      simp only [List.mem_cons, List.not_mem_nil, or_false] at hf
      rcases hf with rfl | rfl | rfl | rfl | rfl | rfl <;> simp only [zv, zl] <;> omega)
  have e : (kA ct_X11_act_k5m1).map (fun q => (q.1, zv (fun v => match v with
    | 0 => a0
    | 1 => a1
    | 2 => a2
    | 3 => a3
    | 4 => a4
    | 5 => a5
    | 50 => gz h 833 0
    | _ => 0) q.2)) = [(2, ((4 : Nat) : Int)), (0, a0), (0, a1), (0, a2), (0, a3), (0, a4), (0, a5)] := by
    show [((2 : Nat), (4 : Int) + 0), (0, 0 + (1 * a0 + 0)), (0, 0 + (1 * a1 + 0)), (0, 0 + (1 * a2 + 0)), (0, 0 + (1 * a3 + 0)), (0, 0 + (1 * a4 + 0)), (0, 0 + (1 * a5 + 0))] = _
    simp only [show ∀ a : Int, (0 : Int) + (1 * a + 0) = a from fun a => by omega]
    rfl
  rw [e] at z
  refine MCal.mono ?_ z
  rintro ⟨o1, o2⟩ h' ⟨J', ρ', e1, e2, e3, e4, e5, e6, e7, e8, e9⟩
  have e2 : o1 = 1 ∧ o2 = (1, ρ' 200) := e2
  obtain ⟨rfl, rfl⟩ := e2
  exact ⟨rfl, rfl, J', e4⟩
set_option maxRecDepth 20000 in
theorem ap_X11_act_k5m2 {h : MH} (J : JJ zJ h) (a0 a1 a2 a3 a4 a5 : Int) (f0 : 0 ≤ -502 + 1 * a0) (f1 : 0 ≤ 503 - 1 * a0) (f2 : 0 ≤ 0 + 1 * a1) (f3 : 0 ≤ -1 - 1 * a1 + 1 * gz h 833 0) : MCal KX11_act yX11_act 0 0 [(2, ((4 : Nat) : Int)), (0, a0), (0, a1), (0, a2), (0, a3), (0, a4), (0, a5)] h (mRL (fun _ h2 => JJ zJ h2 ∧ Frm (kMd ct_X11_act_k5m2) h h2)) := by
  have z := JJ.call2 (q := (KX11_act, yX11_act, 11, 6, 0)) ok_X11_act_k5m2 (by decide +kernel) rfl (ρ := (fun v => match v with
    | 0 => a0
    | 1 => a1
    | 2 => a2
    | 3 => a3
    | 4 => a4
    | 5 => a5
    | 50 => gz h 833 0
    | _ => 0)) J (List.forall_mem_cons.mpr ⟨rfl, (fun e he => absurd he List.not_mem_nil)⟩) (by
      intro f hf
      have hf : f ∈ [(((-502) : Int), [((0 : Nat), (1 : Int))]), ((503 : Int), [((0 : Nat), ((-1) : Int))]), ((0 : Int), [((1 : Nat), (1 : Int))]), (((-1) : Int), [((1 : Nat), ((-1) : Int)), ((50 : Nat), (1 : Int))])] := hf
      simp only [List.mem_cons, List.not_mem_nil, or_false] at hf
      rcases hf with rfl | rfl | rfl | rfl <;> simp only [zv, zl] <;> omega)
  have e : (kA ct_X11_act_k5m2).map (fun q => (q.1, zv (fun v => match v with
    | 0 => a0
    | 1 => a1
    | 2 => a2
    | 3 => a3
    | 4 => a4
    | 5 => a5
    | 50 => gz h 833 0
    | _ => 0) q.2)) = [(2, ((4 : Nat) : Int)), (0, a0), (0, a1), (0, a2), (0, a3), (0, a4), (0, a5)] := by
    show [((2 : Nat), (4 : Int) + 0), (0, 0 + (1 * a0 + 0)), (0, 0 + (1 * a1 + 0)), (0, 0 + (1 * a2 + 0)), (0, 0 + (1 * a3 + 0)), (0, 0 + (1 * a4 + 0)), (0, 0 + (1 * a5 + 0))] = _
    simp only [show ∀ a : Int, (0 : Int) + (1 * a + 0) = a from fun a => by omega]
    rfl
  rw [e] at z
  refine MCal.mono ?_ z
  rintro ⟨o1, o2⟩ h' ⟨J', ρ', e1, e2, e3, e4, e5, e6, e7, e8, e9⟩
  have e2 : o1 = 1 ∧ o2 = (1, ρ' 200) := e2
  obtain ⟨rfl, rfl⟩ := e2
  exact ⟨rfl, rfl, J', e4⟩
set_option maxRecDepth 20000 in
theorem ap_X11_act_k6 {h : MH} (J : JJ zJ h) (a0 a1 a2 a3 a4 a5 : Int) (f0 : 0 ≤ -600 + 1 * a0) (f1 : 0 ≤ 699 - 1 * a0) (f2 : 0 ≤ 95 - 1 * gz h 1319 2) : MCal KX11_act yX11_act 1 10216 [(2, ((4 : Nat) : Int)), (0, a0), (0, a1), (0, a2), (0, a3), (0, a4), (0, a5)] h (mRL (fun _ h2 => JJ zJ h2 ∧ Frm (kMd ct_X11_act_k6) h h2 ∧ gz h2 1319 2 ≤ gz h 1319 2 + 1)) := by
  have z := JJ.call2 (q := (KX11_act, yX11_act, 11, 6, 0)) ok_X11_act_k6 (by decide +kernel) rfl (ρ := (fun v => match v with
    | 0 => a0
    | 1 => a1
    | 2 => a2
    | 3 => a3
    | 4 => a4
    | 5 => a5
    | 50 => gz h 1319 2
    | _ => 0)) J (List.forall_mem_cons.mpr ⟨rfl, (fun e he => absurd he List.not_mem_nil)⟩) (by
      intro f hf
      have hf : f ∈ [(((-600) : Int), [((0 : Nat), (1 : Int))]), ((699 : Int), [((0 : Nat), ((-1) : Int))]), ((95 : Int), [((50 : Nat), ((-1) : Int))])] := hf
      simp only [List.mem_cons, List.not_mem_nil, or_false] at hf
      rcases hf with rfl | rfl | rfl <;> simp only [zv, zl] <;> omega)
  have e : (kA ct_X11_act_k6).map (fun q => (q.1, zv (fun v => match v with
    | 0 => a0
    | 1 => a1
    | 2 => a2
    | 3 => a3
    | 4 => a4
    | 5 => a5
    | 50 => gz h 1319 2
    | _ => 0) q.2)) = [(2, ((4 : Nat) : Int)), (0, a0), (0, a1), (0, a2), (0, a3), (0, a4), (0, a5)] := by
    show [((2 : Nat), (4 : Int) + 0), (0, 0 + (1 * a0 + 0)), (0, 0 + (1 * a1 + 0)), (0, 0 + (1 * a2 + 0)), (0, 0 + (1 * a3 + 0)), (0, 0 + (1 * a4 + 0)), (0, 0 + (1 * a5 + 0))] = _
    simp only [show ∀ a : Int, (0 : Int) + (1 * a + 0) = a from fun a => by omega]
    rfl
  rw [e] at z
  refine MCal.mono ?_ z
  rintro ⟨o1, o2⟩ h' ⟨J', ρ', e1, e2, e3, e4, e5, e6, e7, e8, e9⟩
  have e2 : o1 = 1 ∧ o2 = (1, ρ' 200) := e2
  obtain ⟨rfl, rfl⟩ := e2
  have x1 : gz h' 1319 2 = ρ' 201 := e5 _ List.mem_cons_self
  have x2 : ρ' 50 = gz h 1319 2 := e1 50 (by decide)
  have f1 := e6 _ List.mem_cons_self
  have f2 := e6 _ (List.mem_cons_of_mem _ List.mem_cons_self)
  simp only [zv, zl] at f1 f2
  exact ⟨rfl, rfl, J', e4, by omega⟩
set_option maxRecDepth 20000 in
theorem ap_X11_act_k7hi {h : MH} (J : JJ zJ h) (a0 a1 a2 a3 a4 a5 : Int) (f0 : 0 ≤ -723 + 1 * a0) (f1 : 0 ≤ 799 - 1 * a0) : MCal KX11_act yX11_act 0 0 [(2, ((4 : Nat) : Int)), (0, a0), (0, a1), (0, a2), (0, a3), (0, a4), (0, a5)] h (mRL (fun _ h2 => JJ zJ h2 ∧ Frm (kMd ct_X11_act_k7hi) h h2)) := by
  have z := JJ.call2 (q := (KX11_act, yX11_act, 11, 6, 0)) ok_X11_act_k7hi (by decide +kernel) rfl (ρ := (fun v => match v with
    | 0 => a0
    | 1 => a1
    | 2 => a2
    | 3 => a3
    | 4 => a4
    | 5 => a5
    | _ => 0)) J (fun e he => absurd he List.not_mem_nil) (by
      intro f hf
      have hf : f ∈ [(((-723) : Int), [((0 : Nat), (1 : Int))]), ((799 : Int), [((0 : Nat), ((-1) : Int))])] := hf
      simp only [List.mem_cons, List.not_mem_nil, or_false] at hf
      rcases hf with rfl | rfl <;> simp only [zv, zl] <;> omega)
  have e : (kA ct_X11_act_k7hi).map (fun q => (q.1, zv (fun v => match v with
    | 0 => a0
    | 1 => a1
    | 2 => a2
    | 3 => a3
    | 4 => a4
    | 5 => a5
    | _ => 0) q.2)) = [(2, ((4 : Nat) : Int)), (0, a0), (0, a1), (0, a2), (0, a3), (0, a4), (0, a5)] := by
    show [((2 : Nat), (4 : Int) + 0), (0, 0 + (1 * a0 + 0)), (0, 0 + (1 * a1 + 0)), (0, 0 + (1 * a2 + 0)), (0, 0 + (1 * a3 + 0)), (0, 0 + (1 * a4 + 0)), (0, 0 + (1 * a5 + 0))] = _
    simp only [show ∀ a : Int, (0 : Int) + (1 * a + 0) = a from fun a => by omega]
    rfl
  rw [e] at z
  refine MCal.mono ?_ z
  rintro ⟨o1, o2⟩ h' ⟨J', ρ', e1, e2, e3, e4, e5, e6, e7, e8, e9⟩
  have e2 : o1 = 1 ∧ o2 = (1, ρ' 200) := e2
  obtain ⟨rfl, rfl⟩ := e2
  exact ⟨rfl, rfl, J', e4⟩
set_option maxRecDepth 20000 in
theorem ap_X11_act_k7lo {h : MH} (J : JJ zJ h) (a0 a1 a2 a3 a4 a5 : Int) (f0 : 0 ≤ -700 + 1 * a0) (f1 : 0 ≤ 721 - 1 * a0) : MCal KX11_act yX11_act 0 0 [(2, ((4 : Nat) : Int)), (0, a0), (0, a1), (0, a2), (0, a3), (0, a4), (0, a5)] h (mRL (fun _ h2 => JJ zJ h2 ∧ Frm (kMd ct_X11_act_k7lo) h h2)) := by
  have z := JJ.call2 (q := (KX11_act, yX11_act, 11, 6, 0)) ok_X11_act_k7lo (by decide +kernel) rfl (ρ := (fun v => match v with
    | 0 => a0
    | 1 => a1
    | 2 => a2
    | 3 => a3
    | 4 => a4
    | 5 => a5
    | _ => 0)) J (fun e he => absurd he List.not_mem_nil) (by
      intro f hf
      have hf : f ∈ [(((-700) : Int), [((0 : Nat), (1 : Int))]), ((721 : Int), [((0 : Nat), ((-1) : Int))])] := hf
      simp only [List.mem_cons, List.not_mem_nil, or_false] at hf
      rcases hf with rfl | rfl <;> simp only [zv, zl] <;> omega)
  have e : (kA ct_X11_act_k7lo).map (fun q => (q.1, zv (fun v => match v with
    | 0 => a0
    | 1 => a1
    | 2 => a2
    | 3 => a3
    | 4 => a4
    | 5 => a5
    | _ => 0) q.2)) = [(2, ((4 : Nat) : Int)), (0, a0), (0, a1), (0, a2), (0, a3), (0, a4), (0, a5)] := by
    show [((2 : Nat), (4 : Int) + 0), (0, 0 + (1 * a0 + 0)), (0, 0 + (1 * a1 + 0)), (0, 0 + (1 * a2 + 0)), (0, 0 + (1 * a3 + 0)), (0, 0 + (1 * a4 + 0)), (0, 0 + (1 * a5 + 0))] = _
    simp only [show ∀ a : Int, (0 : Int) + (1 * a + 0) = a from fun a => by omega]
    rfl
  rw [e] at z
  refine MCal.mono ?_ z
  rintro ⟨o1, o2⟩ h' ⟨J', ρ', e1, e2, e3, e4, e5, e6, e7, e8, e9⟩
  have e2 : o1 = 1 ∧ o2 = (1, ρ' 200) := e2
  obtain ⟨rfl, rfl⟩ := e2
  exact ⟨rfl, rfl, J', e4⟩
set_option maxRecDepth 20000 in
theorem ap_X11_act_k7m {h : MH} (J : JJ zJ h) (a0 a1 a2 a3 a4 a5 : Int) (f0 : 0 ≤ -722 + 1 * a0) (f1 : 0 ≤ 722 - 1 * a0) (f2 : 0 ≤ 0 + 1 * a1) (f3 : 0 ≤ -1 - 1 * a1 + 1 * gz h 1982 5) : MCal KX11_act yX11_act 0 0 [(2, ((4 : Nat) : Int)), (0, a0), (0, a1), (0, a2), (0, a3), (0, a4), (0, a5)] h (mRL (fun _ h2 => JJ zJ h2 ∧ Frm (kMd ct_X11_act_k7m) h h2)) := by
  have z := JJ.call2 (q := (KX11_act, yX11_act, 11, 6, 0)) ok_X11_act_k7m (by decide +kernel) rfl (ρ := (fun v => match v with
    | 0 => a0
    | 1 => a1
    | 2 => a2
    | 3 => a3
    | 4 => a4
    | 5 => a5
    | 50 => gz h 1982 5
    | _ => 0)) J (List.forall_mem_cons.mpr ⟨rfl, (fun e he => absurd he List.not_mem_nil)⟩) (by
      intro f hf
      have hf : f ∈ [(((-722) : Int), [((0 : Nat), (1 : Int))]), ((722 : Int), [((0 : Nat), ((-1) : Int))]), ((0 : Int), [((1 : Nat), (1 : Int))]), (((-1) : Int), [((1 : Nat), ((-1) : Int)), ((50 : Nat), (1 : Int))])] := hf
      simp only [List.mem_cons, List.not_mem_nil, or_false] at hf
      rcases hf with rfl | rfl | rfl | rfl <;> simp only [zv, zl] <;> omega)
  have e : (kA ct_X11_act_k7m).map (fun q => (q.1, zv (fun v => match v with
    | 0 => a0
    | 1 => a1
    | 2 => a2
    | 3 => a3
    | 4 => a4
    | 5 => a5
    | 50 => gz h 1982 5
    | _ => 0) q.2)) = [(2, ((4 : Nat) : Int)), (0, a0), (0, a1), (0, a2), (0, a3), (0, a4), (0, a5)] := by
    show [((2 : Nat), (4 : Int) + 0), (0, 0 + (1 * a0 + 0)), (0, 0 + (1 * a1 + 0)), (0, 0 + (1 * a2 + 0)), (0, 0 + (1 * a3 + 0)), (0, 0 + (1 * a4 + 0)), (0, 0 + (1 * a5 + 0))] = _
    simp only [show ∀ a : Int, (0 : Int) + (1 * a + 0) = a from fun a => by omega]
    rfl
  rw [e] at z
  refine MCal.mono ?_ z
  rintro ⟨o1, o2⟩ h' ⟨J', ρ', e1, e2, e3, e4, e5, e6, e7, e8, e9⟩
  have e2 : o1 = 1 ∧ o2 = (1, ρ' 200) := e2
  obtain ⟨rfl, rfl⟩ := e2
  exact ⟨rfl, rfl, J', e4⟩
set_option maxRecDepth 20000 in
theorem ap_X11_act_n {h : MH} (J : JJ zJ h) (a0 a1 a2 a3 a4 a5 : Int) (f0 : 0 ≤ -1 - 1 * a0) : MCal KX11_act yX11_act 0 0 [(2, ((4 : Nat) : Int)), (0, a0), (0, a1), (0, a2), (0, a3), (0, a4), (0, a5)] h (mRL (fun _ h2 => JJ zJ h2 ∧ Frm (kMd ct_X11_act_n) h h2)) := by
  have z := JJ.call2 (q := (KX11_act, yX11_act, 11, 6, 0)) ok_X11_act_n (by decide +kernel) rfl (ρ := (fun v => match v with
    | 0 => a0
    | 1 => a1
    | 2 => a2
    | 3 => a3
    | 4 => a4
    | 5 => a5
    | _ => 0)) J (fun e he => absurd he List.not_mem_nil) (by
      intro f hf
      have hf : f ∈ [(((-1) : Int), [((0 : Nat), ((-1) : Int))])] := hf
      simp only [List.mem_cons, List.not_mem_nil, or_false] at hf
      subst hf
      simp only [zv, zl]
      omega)
  have e : (kA ct_X11_act_n).map (fun q => (q.1, zv (fun v => match v with
    | 0 => a0
    | 1 => a1
    | 2 => a2
    | 3 => a3
    | 4 => a4
    | 5 => a5
    | _ => 0) q.2)) = [(2, ((4 : Nat) : Int)), (0, a0), (0, a1), (0, a2), (0, a3), (0, a4), (0, a5)] := by
    show [((2 : Nat), (4 : Int) + 0), (0, 0 + (1 * a0 + 0)), (0, 0 + (1 * a1 + 0)), (0, 0 + (1 * a2 + 0)), (0, 0 + (1 * a3 + 0)), (0, 0 + (1 * a4 + 0)), (0, 0 + (1 * a5 + 0))] = _
    simp only [show ∀ a : Int, (0 : Int) + (1 * a + 0) = a from fun a => by omega]
    rfl
  rw [e] at z
  refine MCal.mono ?_ z
  rintro ⟨o1, o2⟩ h' ⟨J', ρ', e1, e2, e3, e4, e5, e6, e7, e8, e9⟩
  have e2 : o1 = 1 ∧ o2 = (1, ρ' 200) := e2
  obtain ⟨rfl, rfl⟩ := e2
  exact ⟨rfl, rfl, J', e4⟩
