/-! methods that throwing ones call -/
theorem c_X4_sources {h : MH} (J : JJ zJ h) : MCal KX4_sources yX4_sources 0 0 [(2, ((34 : Nat) : Int))] h (mRI fun v h' => v = ga h 35 0 + ga h 35 1 ∧ JJ zJ h' ∧ Frm [] h h') := by
  refine JJ.call0 (q := (KX4_sources, yX4_sources, 4, 0, 0)) ok_X4_sources (by decide +kernel) rfl (ρ := fun v => match v with
    | 50 => gz h 35 0
    | _ => gz h 35 1) J rfl rfl ⟨rfl, rfl⟩ ?_ ?_ rfl (fun ρ' h' ea ef ed J' F' => ?_)
  · exact List.forall_mem_cons.mpr ⟨rfl, List.forall_mem_cons.mpr ⟨rfl, fun e he => absurd he List.not_mem_nil⟩⟩
  · exact fun e he => absurd he List.not_mem_nil
  · have a1 := ea 50 (by decide)
    have a2 := ea 51 (by decide)
    have f1 := ef (0, [(50, -1), (51, -1), (200, 1)]) List.mem_cons_self
    have f2 := ef (0, [(50, 1), (51, 1), (200, -1)]) (List.mem_cons_of_mem _ List.mem_cons_self)
    simp only [zv, zl] at f1 f2
    have g1 : gz h 35 0 = ga h 35 0 := ga_gz (c := 35) (by decide) (by decide)
    have g2 : gz h 35 1 = ga h 35 1 := ga_gz (c := 35) (by decide) (by decide)
    have a1 : ρ' 50 = gz h 35 0 := a1
    have a2 : ρ' 51 = gz h 35 1 := a2
    exact ⟨by omega, J', F'⟩
theorem c_X4_fillCount {h : MH} (J : JJ zJ h) : MCal KX4_fillCount yX4_fillCount 0 0 [(2, ((34 : Nat) : Int))] h (mRI fun v h' => v = ga h 35 2 ∧ JJ zJ h' ∧ Frm [] h h') := by
  refine JJ.call0 (q := (KX4_fillCount, yX4_fillCount, 4, 0, 0)) ok_X4_fillCount (by decide +kernel) rfl (ρ := fun v => gz h 35 2) J rfl rfl ⟨rfl, rfl⟩ ?_ ?_ rfl (fun ρ' h' ea ef ed J' F' => ?_)
  · exact List.forall_mem_cons.mpr ⟨rfl, fun e he => absurd he List.not_mem_nil⟩
  · exact fun e he => absurd he List.not_mem_nil
  · have a1 : ρ' 50 = gz h 35 2 := ea 50 (by decide)
    have f1 := ef (0, [(50, -1), (200, 1)]) List.mem_cons_self
    have f2 := ef (0, [(50, 1), (200, -1)]) (List.mem_cons_of_mem _ List.mem_cons_self)
    simp only [zv, zl] at f1 f2
    have g1 : gz h 35 2 = ga h 35 2 := ga_gz (c := 35) (by decide) (by decide)
    exact ⟨by omega, J', F'⟩
theorem c_X3_isItem {h : MH} {x : Int} (J : JJ zJ h) (hx : x < 0 ∨ ga h 1982 5 ≤ x) : MCal KX3_isItem yX3_isItem 0 0 [(2, ((1982 : Nat) : Int)), (0, x)] h (mRI fun v h' => v = 0 ∧ JJ zJ h' ∧ Frm [] h h') := by
  refine JJ.call0 (q := (KX3_isItem, yX3_isItem, 3, 1, 0)) ok_X3_isItem (by decide +kernel) rfl (ρ := fun v => match v with
    | 50 => gz h 1982 5
    | _ => x) J rfl rfl ⟨rfl, rfl⟩ ?_ ?_ ?_ (fun ρ' h' ea ef ed J' F' => ?_)
  · exact List.forall_mem_cons.mpr ⟨rfl, fun e he => absurd he List.not_mem_nil⟩
  · exact fun e he => absurd he List.not_mem_nil
  · show [((2 : Nat), (1982 : Int) + 0), (0, 0 + (1 * x + 0))] = _
    rw [show (0 : Int) + (1 * x + 0) = x by omega]
    rfl
  · have a1 : ρ' 50 = gz h 1982 5 := ea 50 (by decide)
    have a2 : ρ' 0 = x := ea 0 (by decide)
    have f1 := ef (0, [(200, 1)]) List.mem_cons_self
    have f2 := ef (1, [(200, -1)]) (List.mem_cons_of_mem _ List.mem_cons_self)
    obtain ⟨d1, m1, k1⟩ := ed _ (List.mem_cons_of_mem _ List.mem_cons_self)
    obtain ⟨d2, m2, k2⟩ := ed _ (List.mem_cons_of_mem _ (List.mem_cons_of_mem _ List.mem_cons_self))
    simp only [zv, zl] at f1 f2
    have g1 : gz h 1982 5 = ga h 1982 5 := ga_gz (c := 1982) (by decide) (by decide)
    refine ⟨?_, J', F'⟩
    simp only [List.mem_cons, List.not_mem_nil, or_false] at m1 m2
    rcases m1 with rfl | rfl <;> rcases m2 with rfl | rfl <;> simp only [zv, zl] at k1 k2 <;> omega
theorem c_X7_testGroup {h : MH} {x : Int} (J : JJ zJ h) (h0 : 0 ≤ x) (h1 : x < ga h 833 0) : MCal KX7_testGroup yX7_testGroup 0 0 [(2, ((833 : Nat) : Int)), (0, x)] h (mRV fun h' => JJ zJ h' ∧ Frm [] h h') := by
  have g1 : gz h 833 0 = ga h 833 0 := ga_gz (c := 833) (by decide) (by decide)
  have z := JJ.call (q := (KX7_testGroup, yX7_testGroup, 7, 1, 0)) ok_X7_testGroup (by decide +kernel) rfl (ρ := fun v => match v with
    | 50 => gz h 833 0
    | _ => x) J (List.forall_mem_cons.mpr ⟨rfl, fun e he => absurd he List.not_mem_nil⟩) (by
      intro f hf
      have hf : f ∈ [((0 : Int), [((0 : Nat), (1 : Int))]), (-1, [(0, -1), (50, 1)])] := hf
      simp only [List.mem_cons, List.not_mem_nil, or_false] at hf
      rcases hf with rfl | rfl <;> simp only [zv, zl] <;> omega)
  have e : (kA ct_X7_testGroup).map (fun q => (q.1, zv (fun v => match v with
    | 50 => gz h 833 0
    | _ => x) q.2)) = [(2, ((833 : Nat) : Int)), (0, x)] := by
    show [((2 : Nat), (833 : Int) + 0), (0, 0 + (1 * x + 0))] = _
    rw [show (0 : Int) + (1 * x + 0) = x by omega]
    rfl
  rw [e] at z
  refine MCal.mono ?_ z
  rintro ⟨o1, o2⟩ h' ⟨J', ρ', e1, e2, e3, e4, e5⟩
  have e2 : o1 = 0 := e2
  exact ⟨e2, J', e4⟩
