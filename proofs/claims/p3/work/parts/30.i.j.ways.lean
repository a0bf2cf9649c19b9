/-! the ways' part: an act is its answer, an answer is find's or findUnlike's -/
theorem tm100 {p : Int} (a : 0 ≤ p) (b : p ≤ 99) : p.tmod 100 = p ∧ p.tdiv 100 = 0 := ⟨Int.tmod_eq_of_lt a (by omega), Int.tdiv_eq_zero_of_lt a (by omega)⟩
set_option maxRecDepth 20000 in
theorem l_X11_way {h : MH} (g : StrZ zT h) {p0 p1 p2 p3 p4 p5 : Int} (h0 : 0 ≤ p0) (h9 : p0 ≤ 99) {mc ms : Nat} {Qf : Int → MH → Prop}
    (hM : MCal KX10_answer yX10_answer mc ms [(2, ((5 : Nat) : Int)), (0, p0), (0, p1), (0, p2), (0, p3), (0, p4), (0, p5)] h (mRL Qf)) :
    MCal KX11_act yX11_act mc ms [(2, ((4 : Nat) : Int)), (0, p0), (0, p1), (0, p2), (0, p3), (0, p4), (0, p5)] h (mRL Qf) := by
  refine MCal.ofMW (Or.inl rfl) ⟨cp_X11, rfl⟩ (Nat.le_of_ble_eq_true rfl) ?_
  change MW KX11_act (mRL Qf) mc ms (pcA pgX11_act 0) [(0, (2, ((4 : Nat) : Int))), (1, (0, p0)), (2, (0, p1)), (3, (0, p2)), (4, (0, p3)), (5, (0, p4)), (6, (0, p5))] [] h
  obtain ⟨t1, t2⟩ := tm100 h0 h9
  refine hd_iload pkX11_act rfl rfl ?_
  refine hd_if_ge pkX11_act rfl (fun c1 => ?_) (fun c1 => ?_)
  · skip
    refine hd_iload pkX11_act rfl rfl ?_
    refine hd_ipush (z := 100) pkX11_act rfl ?_
    refine hd_irem pkX11_act rfl (by decide) (by omega) ?_
    rw [t1]
    refine hd_istore pkX11_act rfl rfl ?_
    refine hd_iload pkX11_act rfl rfl ?_
    refine hd_ipush (z := 100) pkX11_act rfl ?_
    refine hd_idiv pkX11_act rfl (by decide) (by omega) ?_
    rw [t2]
    refine hd_sw (lo := 0) (t := 12) pkX11_act rfl rfl rfl (by decide) ?_
    refine hd_aload pkX11_act rfl rfl (Int.natCast_nonneg _) ?_
    refine hd_getR (n := 5) pkX11_act rfl (st_cell g (c := 4) (k := 27) (n := 0) (by decide +kernel)).1 (st_cell g (c := 4) (k := 27) (n := 0) (by decide +kernel)).2.1 (st_ref g (by decide +kernel)) ?_
    refine hd_iload pkX11_act rfl rfl ?_
    refine hd_iload pkX11_act rfl rfl ?_
    refine hd_iload pkX11_act rfl rfl ?_
    refine hd_iload pkX11_act rfl rfl ?_
    refine hd_iload pkX11_act rfl rfl ?_
    refine hd_iload pkX11_act rfl rfl ?_
    refine hd_callR pkX11_act rfl (q := (KX10_answer, yX10_answer, 10, 6, 0)) rfl rfl rfl (As := [(0, p0), (0, p1), (0, p2), (0, p3), (0, p4), (0, p5)]) (rest := []) (c := 5) rfl rfl (Nat.le_of_ble_eq_true rfl) (st_cell g (c := 5) (k := 26) (n := 0) (by decide +kernel)).1 (st_cell g (c := 5) (k := 26) (n := 0) (by decide +kernel)).2.1 (Nat.le_refl _) (Nat.le_refl _) hM (hd_bL (fun v hc p => ?_))
    refine hd_lret pkX11_act rfl ?_
    exact ⟨rfl, rfl, p⟩
  · exfalso
    omega
set_option maxRecDepth 20000 in
theorem l_X10_find {h : MH} (g : StrZ zT h) {p1 p2 p3 p4 p5 : Int} {mc ms : Nat} {Qf : Int → MH → Prop}
    (hM : MCal KX10_find yX10_find mc ms [(2, ((5 : Nat) : Int)), (0, p1), (0, p2), (0, p3), (0, p4), (0, p5)] h (mRL Qf)) :
    MCal KX10_answer yX10_answer mc ms [(2, ((5 : Nat) : Int)), (0, 5), (0, p1), (0, p2), (0, p3), (0, p4), (0, p5)] h (mRL Qf) := by
  refine MCal.ofMW (Or.inl rfl) ⟨cp_X10, rfl⟩ (Nat.le_of_ble_eq_true rfl) ?_
  change MW KX10_answer (mRL Qf) mc ms (pcA pgX10_answer 0) [(0, (2, ((5 : Nat) : Int))), (1, (0, 5)), (2, (0, p1)), (3, (0, p2)), (4, (0, p3)), (5, (0, p4)), (6, (0, p5))] [] h
  refine hd_iload pkX10_answer rfl rfl ?_
  refine hd_sw (lo := 0) (t := 53) pkX10_answer rfl rfl rfl (by decide) ?_
  refine hd_aload pkX10_answer rfl rfl (Int.natCast_nonneg _) ?_
  refine hd_iload pkX10_answer rfl rfl ?_
  refine hd_iload pkX10_answer rfl rfl ?_
  refine hd_iload pkX10_answer rfl rfl ?_
  refine hd_iload pkX10_answer rfl rfl ?_
  refine hd_iload pkX10_answer rfl rfl ?_
  refine hd_callR pkX10_answer rfl (q := (KX10_find, yX10_find, 10, 5, 0)) rfl rfl rfl (As := [(0, p1), (0, p2), (0, p3), (0, p4), (0, p5)]) (rest := []) (c := 5) rfl rfl (Nat.le_of_ble_eq_true rfl) (st_cell g (c := 5) (k := 26) (n := 0) (by decide +kernel)).1 (st_cell g (c := 5) (k := 26) (n := 0) (by decide +kernel)).2.1 (Nat.le_refl _) (Nat.le_refl _) hM (hd_bL (fun v hc p => ?_))
  refine hd_lret pkX10_answer rfl ?_
  exact ⟨rfl, rfl, p⟩
set_option maxRecDepth 20000 in
theorem l_X10_unlike {h : MH} (g : StrZ zT h) {p1 p2 p3 p4 p5 : Int} {mc ms : Nat} {Qf : Int → MH → Prop}
    (hM : MCal KX10_findUnlike yX10_findUnlike mc ms [(2, ((5 : Nat) : Int)), (0, p1), (0, p2)] h (mRL Qf)) :
    MCal KX10_answer yX10_answer mc ms [(2, ((5 : Nat) : Int)), (0, 10), (0, p1), (0, p2), (0, p3), (0, p4), (0, p5)] h (mRL Qf) := by
  refine MCal.ofMW (Or.inl rfl) ⟨cp_X10, rfl⟩ (Nat.le_of_ble_eq_true rfl) ?_
  change MW KX10_answer (mRL Qf) mc ms (pcA pgX10_answer 0) [(0, (2, ((5 : Nat) : Int))), (1, (0, 10)), (2, (0, p1)), (3, (0, p2)), (4, (0, p3)), (5, (0, p4)), (6, (0, p5))] [] h
  refine hd_iload pkX10_answer rfl rfl ?_
  refine hd_sw (lo := 0) (t := 80) pkX10_answer rfl rfl rfl (by decide) ?_
  refine hd_aload pkX10_answer rfl rfl (Int.natCast_nonneg _) ?_
  refine hd_iload pkX10_answer rfl rfl ?_
  refine hd_iload pkX10_answer rfl rfl ?_
  refine hd_callR pkX10_answer rfl (q := (KX10_findUnlike, yX10_findUnlike, 10, 2, 0)) rfl rfl rfl (As := [(0, p1), (0, p2)]) (rest := []) (c := 5) rfl rfl (Nat.le_of_ble_eq_true rfl) (st_cell g (c := 5) (k := 26) (n := 0) (by decide +kernel)).1 (st_cell g (c := 5) (k := 26) (n := 0) (by decide +kernel)).2.1 (Nat.le_refl _) (Nat.le_refl _) hM (hd_bL (fun v hc p => ?_))
  refine hd_lret pkX10_answer rfl ?_
  exact ⟨rfl, rfl, p⟩
