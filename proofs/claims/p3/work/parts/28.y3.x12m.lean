/-! X12 by hand: its methods -/
abbrev t12c : List (Nat × Nat × Nat) := [(2449, 28, 0), (2450, 0, 144), (2451, 0, 144), (2452, 0, 144), (2453, 0, 144), (2454, 0, 144), (2455, 2, 144), (2456, 0, 576), (2457, 0, 1152), (2458, 0, 4), (2459, 0, 4), (2460, 1, 88128), (2461, 0, 88128), (2462, 0, 88128), (2463, 2, 88128), (2464, 2, 144), (2465, 0, 6), (2466, 0, 6), (2467, 3, 30000)]
abbrev r12c : List (Nat × Nat × Nat) := [(2449, 2, 2450), (2449, 3, 2451), (2449, 4, 2452), (2449, 5, 2453), (2449, 6, 2454), (2449, 7, 2455), (2449, 8, 2456), (2449, 9, 2457), (2449, 10, 2458), (2449, 11, 2459), (2449, 15, 2460), (2449, 16, 2461), (2449, 17, 2462), (2449, 18, 2463), (2449, 19, 2464), (2449, 24, 2465), (2449, 25, 2466), (2449, 26, 2467)]
set_option maxRecDepth 20000 in
set_option maxHeartbeats 8000000 in
theorem h_X12_noCell {h : MH} {x y : Int} (hw : ga h 2449 0 = 12 ∧ ga h 2449 1 = 12) (g : Str t12c r12c h) : MCal KX12_noCell yX12_noCell 0 0 [(2, ((2449 : Nat) : Int)), (0, x), (0, y)] h (mRI fun v h' => Tv12 v (x < 0 ∨ 12 ≤ x ∨ y < 0 ∨ 12 ≤ y) ∧ h' = h) := by
  refine MCal.ofMW (Or.inl rfl) ⟨cp_X12, rfl⟩ (Nat.le_of_ble_eq_true rfl) ?_
  generalize eQ : (mRI fun v h' => Tv12 v (x < 0 ∨ 12 ≤ x ∨ y < 0 ∨ 12 ≤ y) ∧ h' = h : MO → MH → Prop) = Q
  change MW KX12_noCell Q 0 0 (pcA pgX12_noCell 0) [(0, (2, ((2449 : Nat) : Int))), (1, (0, x)), (2, (0, y))] [] h
  refine hd_locI (i := 1) rfl (fun rx => ?_)
  refine hd_locI (i := 2) rfl (fun ry => ?_)
  refine hd_iload pkX12_noCell rfl rfl ?_
  refine hd_if_lt pkX12_noCell rfl (fun c1 => ?_) (fun c1 => ?_)
  · skip
    refine hd_ipush (z := 1) pkX12_noCell rfl ?_
    refine hd_goto pkX12_noCell rfl ?_
    refine hd_zret pkX12_noCell rfl (by omega) ?_
    subst eQ
    exact ⟨rfl, rfl, Or.inl ⟨rfl, by omega⟩, rfl⟩
  · skip
    refine hd_iload pkX12_noCell rfl rfl ?_
    refine hd_aload pkX12_noCell rfl rfl (Int.natCast_nonneg _) ?_
    refine hd_getI pkX12_noCell rfl (g.cell 0 rfl).1 (g.cell 0 rfl).2.1 (fun v2 ev2 rv2 => ?_)
    replace ev2 : v2 = ga h 2449 0 := ev2
    have qv2 : (12 : Int) = v2 := by rw [ev2]; exact hw.1.symm
    subst qv2
    refine hd_ic_ge pkX12_noCell rfl (fun c3 => ?_) (fun c3 => ?_)
    · skip
      refine hd_ipush (z := 1) pkX12_noCell rfl ?_
      refine hd_goto pkX12_noCell rfl ?_
      refine hd_zret pkX12_noCell rfl (by omega) ?_
      subst eQ
      exact ⟨rfl, rfl, Or.inl ⟨rfl, by omega⟩, rfl⟩
    · skip
      refine hd_iload pkX12_noCell rfl rfl ?_
      refine hd_if_lt pkX12_noCell rfl (fun c4 => ?_) (fun c4 => ?_)
      · skip
        refine hd_ipush (z := 1) pkX12_noCell rfl ?_
        refine hd_goto pkX12_noCell rfl ?_
        refine hd_zret pkX12_noCell rfl (by omega) ?_
        subst eQ
        exact ⟨rfl, rfl, Or.inl ⟨rfl, by omega⟩, rfl⟩
      · skip
        refine hd_iload pkX12_noCell rfl rfl ?_
        refine hd_aload pkX12_noCell rfl rfl (Int.natCast_nonneg _) ?_
        refine hd_getI pkX12_noCell rfl (g.cell 0 rfl).1 (g.cell 0 rfl).2.1 (fun v5 ev5 rv5 => ?_)
        replace ev5 : v5 = ga h 2449 1 := ev5
        have qv5 : (12 : Int) = v5 := by rw [ev5]; exact hw.2.symm
        subst qv5
        refine hd_ic_lt pkX12_noCell rfl (fun c6 => ?_) (fun c6 => ?_)
        · skip
          refine hd_ipush (z := 0) pkX12_noCell rfl ?_
          refine hd_zret pkX12_noCell rfl (by omega) ?_
          subst eQ
          exact ⟨rfl, rfl, Or.inr ⟨rfl, by omega⟩, rfl⟩
        · skip
          refine hd_ipush (z := 1) pkX12_noCell rfl ?_
          refine hd_goto pkX12_noCell rfl ?_
          refine hd_zret pkX12_noCell rfl (by omega) ?_
          subst eQ
          exact ⟨rfl, rfl, Or.inl ⟨rfl, by omega⟩, rfl⟩
set_option maxRecDepth 20000 in
set_option maxHeartbeats 8000000 in
theorem h_X12_dx {h : MH} {d : Int} (hd : 0 ≤ d ∧ d ≤ 15) (g : Str t12c r12c h) : MCal KX12_dx yX12_dx 0 0 [(0, d)] h (mRI fun v h' => v = dxF d ∧ h' = h) := by
  refine MCal.ofMW (Or.inl rfl) ⟨cp_X12, rfl⟩ (Nat.le_of_ble_eq_true rfl) ?_
  generalize eQ : (mRI fun v h' => v = dxF d ∧ h' = h : MO → MH → Prop) = Q
  rcases (show d = 0 ∨ d = 1 ∨ d = 2 ∨ d = 3 ∨ d = 4 ∨ d = 5 ∨ d = 6 ∨ d = 7 ∨ d = 8 ∨ d = 9 ∨ d = 10 ∨ d = 11 ∨ d = 12 ∨ d = 13 ∨ d = 14 ∨ d = 15 by omega) with rfl | rfl | rfl | rfl | rfl | rfl | rfl | rfl | rfl | rfl | rfl | rfl | rfl | rfl | rfl | rfl
  · change MW KX12_dx Q 0 0 (pcA pgX12_dx 0) [(0, (0, 0))] [] h
    refine hd_iload pkX12_dx rfl rfl ?_
    refine hd_sw (lo := 0) (t := 2) pkX12_dx rfl rfl rfl (by decide) ?_
    refine hd_ipush (z := 1) pkX12_dx rfl ?_
    refine hd_iret pkX12_dx rfl ?_
    subst eQ
    exact ⟨rfl, rfl, by decide, rfl⟩
  · change MW KX12_dx Q 0 0 (pcA pgX12_dx 0) [(0, (0, 1))] [] h
    refine hd_iload pkX12_dx rfl rfl ?_
    refine hd_sw (lo := 0) (t := 4) pkX12_dx rfl rfl rfl (by decide) ?_
    refine hd_ipush (z := 2) pkX12_dx rfl ?_
    refine hd_iret pkX12_dx rfl ?_
    subst eQ
    exact ⟨rfl, rfl, by decide, rfl⟩
  · change MW KX12_dx Q 0 0 (pcA pgX12_dx 0) [(0, (0, 2))] [] h
    refine hd_iload pkX12_dx rfl rfl ?_
    refine hd_sw (lo := 0) (t := 2) pkX12_dx rfl rfl rfl (by decide) ?_
    refine hd_ipush (z := 1) pkX12_dx rfl ?_
    refine hd_iret pkX12_dx rfl ?_
    subst eQ
    exact ⟨rfl, rfl, by decide, rfl⟩
  · change MW KX12_dx Q 0 0 (pcA pgX12_dx 0) [(0, (0, 3))] [] h
    refine hd_iload pkX12_dx rfl rfl ?_
    refine hd_sw (lo := 0) (t := 6) pkX12_dx rfl rfl rfl (by decide) ?_
    refine hd_ipush (z := 1) pkX12_dx rfl ?_
    refine hd_iret pkX12_dx rfl ?_
    subst eQ
    exact ⟨rfl, rfl, by decide, rfl⟩
  · change MW KX12_dx Q 0 0 (pcA pgX12_dx 0) [(0, (0, 4))] [] h
    refine hd_iload pkX12_dx rfl rfl ?_
    refine hd_sw (lo := 0) (t := 8) pkX12_dx rfl rfl rfl (by decide) ?_
    refine hd_ipush (z := 0) pkX12_dx rfl ?_
    refine hd_iret pkX12_dx rfl ?_
    subst eQ
    exact ⟨rfl, rfl, by decide, rfl⟩
  · change MW KX12_dx Q 0 0 (pcA pgX12_dx 0) [(0, (0, 5))] [] h
    refine hd_iload pkX12_dx rfl rfl ?_
    refine hd_sw (lo := 0) (t := 12) pkX12_dx rfl rfl rfl (by decide) ?_
    refine hd_ipush (z := (-1)) pkX12_dx rfl ?_
    refine hd_iret pkX12_dx rfl ?_
    subst eQ
    exact ⟨rfl, rfl, by decide, rfl⟩
  · change MW KX12_dx Q 0 0 (pcA pgX12_dx 0) [(0, (0, 6))] [] h
    refine hd_iload pkX12_dx rfl rfl ?_
    refine hd_sw (lo := 0) (t := 12) pkX12_dx rfl rfl rfl (by decide) ?_
    refine hd_ipush (z := (-1)) pkX12_dx rfl ?_
    refine hd_iret pkX12_dx rfl ?_
    subst eQ
    exact ⟨rfl, rfl, by decide, rfl⟩
  · change MW KX12_dx Q 0 0 (pcA pgX12_dx 0) [(0, (0, 7))] [] h
    refine hd_iload pkX12_dx rfl rfl ?_
    refine hd_sw (lo := 0) (t := 10) pkX12_dx rfl rfl rfl (by decide) ?_
    refine hd_ipush (z := (-2)) pkX12_dx rfl ?_
    refine hd_iret pkX12_dx rfl ?_
    subst eQ
    exact ⟨rfl, rfl, by decide, rfl⟩
  · change MW KX12_dx Q 0 0 (pcA pgX12_dx 0) [(0, (0, 8))] [] h
    refine hd_iload pkX12_dx rfl rfl ?_
    refine hd_sw (lo := 0) (t := 12) pkX12_dx rfl rfl rfl (by decide) ?_
    refine hd_ipush (z := (-1)) pkX12_dx rfl ?_
    refine hd_iret pkX12_dx rfl ?_
    subst eQ
    exact ⟨rfl, rfl, by decide, rfl⟩
  · change MW KX12_dx Q 0 0 (pcA pgX12_dx 0) [(0, (0, 9))] [] h
    refine hd_iload pkX12_dx rfl rfl ?_
    refine hd_sw (lo := 0) (t := 10) pkX12_dx rfl rfl rfl (by decide) ?_
    refine hd_ipush (z := (-2)) pkX12_dx rfl ?_
    refine hd_iret pkX12_dx rfl ?_
    subst eQ
    exact ⟨rfl, rfl, by decide, rfl⟩
  · change MW KX12_dx Q 0 0 (pcA pgX12_dx 0) [(0, (0, 10))] [] h
    refine hd_iload pkX12_dx rfl rfl ?_
    refine hd_sw (lo := 0) (t := 12) pkX12_dx rfl rfl rfl (by decide) ?_
    refine hd_ipush (z := (-1)) pkX12_dx rfl ?_
    refine hd_iret pkX12_dx rfl ?_
    subst eQ
    exact ⟨rfl, rfl, by decide, rfl⟩
  · change MW KX12_dx Q 0 0 (pcA pgX12_dx 0) [(0, (0, 11))] [] h
    refine hd_iload pkX12_dx rfl rfl ?_
    refine hd_sw (lo := 0) (t := 12) pkX12_dx rfl rfl rfl (by decide) ?_
    refine hd_ipush (z := (-1)) pkX12_dx rfl ?_
    refine hd_iret pkX12_dx rfl ?_
    subst eQ
    exact ⟨rfl, rfl, by decide, rfl⟩
  · change MW KX12_dx Q 0 0 (pcA pgX12_dx 0) [(0, (0, 12))] [] h
    refine hd_iload pkX12_dx rfl rfl ?_
    refine hd_sw (lo := 0) (t := 8) pkX12_dx rfl rfl rfl (by decide) ?_
    refine hd_ipush (z := 0) pkX12_dx rfl ?_
    refine hd_iret pkX12_dx rfl ?_
    subst eQ
    exact ⟨rfl, rfl, by decide, rfl⟩
  · change MW KX12_dx Q 0 0 (pcA pgX12_dx 0) [(0, (0, 13))] [] h
    refine hd_iload pkX12_dx rfl rfl ?_
    refine hd_sw (lo := 0) (t := 6) pkX12_dx rfl rfl rfl (by decide) ?_
    refine hd_ipush (z := 1) pkX12_dx rfl ?_
    refine hd_iret pkX12_dx rfl ?_
    subst eQ
    exact ⟨rfl, rfl, by decide, rfl⟩
  · change MW KX12_dx Q 0 0 (pcA pgX12_dx 0) [(0, (0, 14))] [] h
    refine hd_iload pkX12_dx rfl rfl ?_
    refine hd_sw (lo := 0) (t := 2) pkX12_dx rfl rfl rfl (by decide) ?_
    refine hd_ipush (z := 1) pkX12_dx rfl ?_
    refine hd_iret pkX12_dx rfl ?_
    subst eQ
    exact ⟨rfl, rfl, by decide, rfl⟩
  · change MW KX12_dx Q 0 0 (pcA pgX12_dx 0) [(0, (0, 15))] [] h
    refine hd_iload pkX12_dx rfl rfl ?_
    refine hd_sw (lo := 0) (t := 4) pkX12_dx rfl rfl rfl (by decide) ?_
    refine hd_ipush (z := 2) pkX12_dx rfl ?_
    refine hd_iret pkX12_dx rfl ?_
    subst eQ
    exact ⟨rfl, rfl, by decide, rfl⟩
set_option maxRecDepth 20000 in
set_option maxHeartbeats 8000000 in
theorem h_X12_dy {h : MH} {d : Int} (hd : 0 ≤ d ∧ d ≤ 15) (g : Str t12c r12c h) : MCal KX12_dy yX12_dy 0 0 [(0, d)] h (mRI fun v h' => v = dyF d ∧ h' = h) := by
  refine MCal.ofMW (Or.inl rfl) ⟨cp_X12, rfl⟩ (Nat.le_of_ble_eq_true rfl) ?_
  generalize eQ : (mRI fun v h' => v = dyF d ∧ h' = h : MO → MH → Prop) = Q
  change MW KX12_dy Q 0 0 (pcA pgX12_dy 0) [(0, (0, d))] [] h
  refine hd_locI (i := 0) rfl (fun rd => ?_)
  refine hd_iload pkX12_dy rfl rfl ?_
  refine hd_ipush (z := 12) pkX12_dy rfl ?_
  refine hd_iadd pkX12_dy rfl (by omega) ?_
  refine hd_ipush (z := 16) pkX12_dy rfl ?_
  refine hd_irem pkX12_dy rfl (by omega) (by have e9 := emod_of (x := d + 12) (y := 16) (by omega) (by omega); omega) ?_
  generalize em : (Int.tmod (d + 12) 16) = m
  rw [(emod_of (by omega) (by omega)).1] at em
  refine hd_callS pkX12_dy rfl (q := (KX12_dx, yX12_dx, 12, 1, 1)) rfl rfl rfl (As := [(0, m)]) (rest := []) rfl rfl (Nat.le_of_ble_eq_true rfl) rfl (h_X12_dx (d := m) ⟨by omega, by omega⟩ g) (hd_bI (fun w1 hc2 pd => ?_))
  obtain ⟨pd, ehc2⟩ := pd
  replace ehc2 := ehc2.symm
  subst ehc2
  refine hd_iret pkX12_dy rfl ?_
  subst eQ
  refine ⟨rfl, rfl, ?_, rfl⟩
  unfold dyF
  rw [em]
  exact pd
set_option maxRecDepth 20000 in
set_option maxHeartbeats 8000000 in
theorem h_X12_length {h : MH} {d : Int} (hd : 0 ≤ d ∧ d ≤ 15) (g : Str t12c r12c h) : MCal KX12_length yX12_length 0 0 [(0, d)] h (mRI fun v h' => v = lnF d ∧ h' = h) := by
  refine MCal.ofMW (Or.inl rfl) ⟨cp_X12, rfl⟩ (Nat.le_of_ble_eq_true rfl) ?_
  generalize eQ : (mRI fun v h' => v = lnF d ∧ h' = h : MO → MH → Prop) = Q
  change MW KX12_length Q 0 0 (pcA pgX12_length 0) [(0, (0, d))] [] h
  refine hd_locI (i := 0) rfl (fun rd => ?_)
  refine hd_iload pkX12_length rfl rfl ?_
  refine hd_ipush (z := 2) pkX12_length rfl ?_
  refine hd_irem pkX12_length rfl (by omega) (by have e9 := emod_of (x := d) (y := 2) (by omega) (by omega); omega) ?_
  generalize ema : (Int.tmod d 2) = ma
  rw [(emod_of (by omega) (by omega)).1] at ema
  refine hd_if_eq pkX12_length rfl (fun c1 => ?_) (fun c1 => ?_)
  · skip
    refine hd_iload pkX12_length rfl rfl ?_
    refine hd_ipush (z := 4) pkX12_length rfl ?_
    refine hd_irem pkX12_length rfl (by omega) (by have e9 := emod_of (x := d) (y := 4) (by omega) (by omega); omega) ?_
    generalize emb : (Int.tmod d 4) = mb
    rw [(emod_of (by omega) (by omega)).1] at emb
    refine hd_if_ne pkX12_length rfl (fun c2 => ?_) (fun c2 => ?_)
    · skip
      refine hd_ipush (z := 14) pkX12_length rfl ?_
      refine hd_iret pkX12_length rfl ?_
      subst eQ
      refine ⟨rfl, rfl, ?_, rfl⟩
      show 14 = lnF d
      unfold lnF
      repeat' split
      all_goals omega
    · skip
      refine hd_ipush (z := 10) pkX12_length rfl ?_
      refine hd_goto pkX12_length rfl ?_
      refine hd_iret pkX12_length rfl ?_
      subst eQ
      refine ⟨rfl, rfl, ?_, rfl⟩
      show 10 = lnF d
      unfold lnF
      repeat' split
      all_goals omega
  · skip
    refine hd_ipush (z := 22) pkX12_length rfl ?_
    refine hd_goto pkX12_length rfl ?_
    refine hd_iret pkX12_length rfl ?_
    subst eQ
    refine ⟨rfl, rfl, ?_, rfl⟩
    show 22 = lnF d
    unfold lnF
    repeat' split
    all_goals omega
set_option maxRecDepth 20000 in
set_option maxHeartbeats 8000000 in
theorem h_X12_step {h : MH} {c d : Int} (hc : 0 ≤ c ∧ c ≤ 143) (hd : 0 ≤ d ∧ d ≤ 15) (hw : ga h 2449 0 = 12 ∧ ga h 2449 1 = 12) (g : Str t12c r12c h) : MCal KX12_step yX12_step 0 0 [(2, ((2449 : Nat) : Int)), (0, c), (0, d)] h (mRI fun v h' => v = st12 c d ∧ h' = h) := by
  refine MCal.ofMW (Or.inl rfl) ⟨cp_X12, rfl⟩ (Nat.le_of_ble_eq_true rfl) ?_
  generalize eQ : (mRI fun v h' => v = st12 c d ∧ h' = h : MO → MH → Prop) = Q
  change MW KX12_step Q 0 0 (pcA pgX12_step 0) [(0, (2, ((2449 : Nat) : Int))), (1, (0, c)), (2, (0, d))] [] h
  refine hd_locI (i := 1) rfl (fun rc => ?_)
  refine hd_locI (i := 2) rfl (fun rd => ?_)
  have bx := dxF_b d
  have by9 := dyF_b d
  refine hd_iload pkX12_step rfl rfl ?_
  refine hd_aload pkX12_step rfl rfl (Int.natCast_nonneg _) ?_
  refine hd_getI pkX12_step rfl (g.cell 0 rfl).1 (g.cell 0 rfl).2.1 (fun v1 ev1 rv1 => ?_)
  replace ev1 : v1 = ga h 2449 0 := ev1
  have qv1 : (12 : Int) = v1 := by rw [ev1]; exact hw.1.symm
  subst qv1
  refine hd_irem pkX12_step rfl (by omega) (by have e9 := emod_of (x := c) (y := 12) (by omega) (by omega); omega) ?_
  generalize exx : (Int.tmod c 12) = xx
  rw [(emod_of (by omega) (by omega)).1] at exx
  refine hd_iload pkX12_step rfl rfl ?_
  refine hd_callS pkX12_step rfl (q := (KX12_dx, yX12_dx, 12, 1, 1)) rfl rfl rfl (As := [(0, d)]) (rest := [(0, xx)]) rfl rfl (Nat.le_of_ble_eq_true rfl) rfl (h_X12_dx hd g) (hd_bI (fun w2 hc3 pd => ?_))
  obtain ⟨pd, ehc3⟩ := pd
  replace ehc3 := ehc3.symm
  subst ehc3
  subst pd
  refine hd_iadd pkX12_step rfl (by omega) ?_
  refine hd_istore pkX12_step rfl rfl ?_
  change MW _ _ _ _ _ [(3, (0, (xx + (dxF d)))), (0, (2, ((2449 : Nat) : Int))), (1, (0, c)), (2, (0, d))] _ _
  refine hd_iload pkX12_step rfl rfl ?_
  refine hd_aload pkX12_step rfl rfl (Int.natCast_nonneg _) ?_
  refine hd_getI pkX12_step rfl (g.cell 0 rfl).1 (g.cell 0 rfl).2.1 (fun v4 ev4 rv4 => ?_)
  replace ev4 : v4 = ga h 2449 0 := ev4
  have qv4 : (12 : Int) = v4 := by rw [ev4]; exact hw.1.symm
  subst qv4
  refine hd_idiv pkX12_step rfl (by omega) (by have e9 := tdiv12 (x := c) (y := 12) (by omega) (by omega); omega) ?_
  generalize eyy : (Int.tdiv c 12) = yy
  rw [(tdiv12 (by omega) (by omega)).1] at eyy
  refine hd_iload pkX12_step rfl rfl ?_
  refine hd_callS pkX12_step rfl (q := (KX12_dy, yX12_dy, 12, 1, 1)) rfl rfl rfl (As := [(0, d)]) (rest := [(0, yy)]) rfl rfl (Nat.le_of_ble_eq_true rfl) rfl (h_X12_dy hd g) (hd_bI (fun w5 hc6 pe => ?_))
  obtain ⟨pe, ehc6⟩ := pe
  replace ehc6 := ehc6.symm
  subst ehc6
  subst pe
  refine hd_iadd pkX12_step rfl (by omega) ?_
  refine hd_istore pkX12_step rfl rfl ?_
  change MW _ _ _ _ _ [(4, (0, (yy + (dyF d)))), (3, (0, (xx + (dxF d)))), (0, (2, ((2449 : Nat) : Int))), (1, (0, c)), (2, (0, d))] _ _
  refine hd_aload pkX12_step rfl rfl (Int.natCast_nonneg _) ?_
  refine hd_iload pkX12_step rfl rfl ?_
  refine hd_iload pkX12_step rfl rfl ?_
  refine hd_callV pkX12_step rfl (q := (KX12_noCell, yX12_noCell, 12, 2, 0)) rfl rfl rfl (As := [(0, (xx + (dxF d))), (0, (yy + (dyF d)))]) (rest := []) (c := 2449) rfl rfl (Nat.le_of_ble_eq_true rfl) (g.cell 0 rfl).1 (g.cell 0 rfl).2.1 (h_X12_noCell hw g) (hd_bI (fun w7 hc8 pn => ?_))
  obtain ⟨pn, ehc8⟩ := pn
  replace ehc8 := ehc8.symm
  subst ehc8
  refine hd_if_eq pkX12_step rfl (fun c9 => ?_) (fun c9 => ?_)
  · skip
    have nn := pn.f c9
    refine hd_iload pkX12_step rfl rfl ?_
    refine hd_aload pkX12_step rfl rfl (Int.natCast_nonneg _) ?_
    refine hd_getI pkX12_step rfl (g.cell 0 rfl).1 (g.cell 0 rfl).2.1 (fun v10 ev10 rv10 => ?_)
    replace ev10 : v10 = ga h 2449 0 := ev10
    have qv10 : (12 : Int) = v10 := by rw [ev10]; exact hw.1.symm
    subst qv10
    refine hd_imul pkX12_step rfl (by omega) ?_
    refine hd_iload pkX12_step rfl rfl ?_
    refine hd_iadd pkX12_step rfl (by omega) ?_
    refine hd_iret pkX12_step rfl ?_
    subst eQ
    refine ⟨rfl, rfl, ?_, rfl⟩
    show (((yy + (dyF d)) * 12) + (xx + (dxF d))) = st12 c d
    unfold st12
    rw [if_neg (by omega)]
    omega
  · skip
    have nn := pn.t c9
    refine hd_ipush (z := (-1)) pkX12_step rfl ?_
    refine hd_goto pkX12_step rfl ?_
    refine hd_iret pkX12_step rfl ?_
    subst eQ
    refine ⟨rfl, rfl, ?_, rfl⟩
    show (-1) = st12 c d
    unfold st12
    rw [if_pos (by omega)]
set_option maxRecDepth 20000 in
set_option maxHeartbeats 8000000 in
theorem h_X12_isBridged {h : MH} {c : Int} (hc : 0 ≤ c ∧ c ≤ 143) (g : Str t12c r12c h) : MCal KX12_isBridged yX12_isBridged 0 0 [(2, ((2449 : Nat) : Int)), (0, c)] h (mRI fun v h' => Tv12 v (brF h c) ∧ h' = h) := by
  refine MCal.ofMW (Or.inl rfl) ⟨cp_X12, rfl⟩ (Nat.le_of_ble_eq_true rfl) ?_
  generalize eQ : (mRI fun v h' => Tv12 v (brF h c) ∧ h' = h : MO → MH → Prop) = Q
  change MW KX12_isBridged Q 0 0 (pcA pgX12_isBridged 0) [(0, (2, ((2449 : Nat) : Int))), (1, (0, c))] [] h
  refine hd_locI (i := 1) rfl (fun rc => ?_)
  refine hd_aload pkX12_isBridged rfl rfl (Int.natCast_nonneg _) ?_
  refine hd_getR (n := 2455) pkX12_isBridged rfl (g.cell 0 rfl).1 (g.cell 0 rfl).2.1 (g.ref 5 rfl) ?_
  refine hd_iload pkX12_isBridged rfl rfl ?_
  refine hd_zald (n := 144) pkX12_isBridged rfl (g.cell 6 rfl) (by omega) (by omega) (fun v1 ev1 rv1 => ?_)
  refine hd_if_eq pkX12_isBridged rfl (fun c2 => ?_) (fun c2 => ?_)
  · skip
    refine hd_ipush (z := 0) pkX12_isBridged rfl ?_
    refine hd_zret pkX12_isBridged rfl (by omega) ?_
    subst eQ
    refine ⟨rfl, rfl, Or.inr ⟨rfl, ?_⟩, rfl⟩
    unfold brF
    omega
  · skip
    refine hd_aload pkX12_isBridged rfl rfl (Int.natCast_nonneg _) ?_
    refine hd_getR (n := 2453) pkX12_isBridged rfl (g.cell 0 rfl).1 (g.cell 0 rfl).2.1 (g.ref 3 rfl) ?_
    refine hd_iload pkX12_isBridged rfl rfl ?_
    refine hd_iald (n := 144) pkX12_isBridged rfl (g.cell 4 rfl) (by omega) (by omega) (fun v3 ev3 rv3 => ?_)
    refine hd_if_le pkX12_isBridged rfl (fun c4 => ?_) (fun c4 => ?_)
    · skip
      refine hd_ipush (z := 0) pkX12_isBridged rfl ?_
      refine hd_zret pkX12_isBridged rfl (by omega) ?_
      subst eQ
      refine ⟨rfl, rfl, Or.inr ⟨rfl, ?_⟩, rfl⟩
      unfold brF
      omega
    · skip
      refine hd_ipush (z := 1) pkX12_isBridged rfl ?_
      refine hd_goto pkX12_isBridged rfl ?_
      refine hd_zret pkX12_isBridged rfl (by omega) ?_
      subst eQ
      refine ⟨rfl, rfl, Or.inl ⟨rfl, ?_⟩, rfl⟩
      unfold brF
      omega
set_option maxRecDepth 20000 in
set_option maxHeartbeats 8000000 in
theorem h_X12_isClosed {h : MH} {c : Int} (hc : 0 ≤ c ∧ c ≤ 143) (g : Str t12c r12c h) : MCal KX12_isClosed yX12_isClosed 0 0 [(2, ((2449 : Nat) : Int)), (0, c)] h (mRI fun v h' => Tv12 v (cz12 h c) ∧ h' = h) := by
  refine MCal.ofMW (Or.inl rfl) ⟨cp_X12, rfl⟩ (Nat.le_of_ble_eq_true rfl) ?_
  generalize eQ : (mRI fun v h' => Tv12 v (cz12 h c) ∧ h' = h : MO → MH → Prop) = Q
  change MW KX12_isClosed Q 0 0 (pcA pgX12_isClosed 0) [(0, (2, ((2449 : Nat) : Int))), (1, (0, c))] [] h
  refine hd_locI (i := 1) rfl (fun rc => ?_)
  refine hd_aload pkX12_isClosed rfl rfl (Int.natCast_nonneg _) ?_
  refine hd_getR (n := 2455) pkX12_isClosed rfl (g.cell 0 rfl).1 (g.cell 0 rfl).2.1 (g.ref 5 rfl) ?_
  refine hd_iload pkX12_isClosed rfl rfl ?_
  refine hd_zald (n := 144) pkX12_isClosed rfl (g.cell 6 rfl) (by omega) (by omega) (fun v1 ev1 rv1 => ?_)
  refine hd_if_eq pkX12_isClosed rfl (fun c2 => ?_) (fun c2 => ?_)
  · skip
    refine hd_ipush (z := 0) pkX12_isClosed rfl ?_
    refine hd_zret pkX12_isClosed rfl (by omega) ?_
    subst eQ
    refine ⟨rfl, rfl, Or.inr ⟨rfl, ?_⟩, rfl⟩
    unfold cz12
    omega
  · skip
    refine hd_aload pkX12_isClosed rfl rfl (Int.natCast_nonneg _) ?_
    refine hd_getR (n := 2453) pkX12_isClosed rfl (g.cell 0 rfl).1 (g.cell 0 rfl).2.1 (g.ref 3 rfl) ?_
    refine hd_iload pkX12_isClosed rfl rfl ?_
    refine hd_iald (n := 144) pkX12_isClosed rfl (g.cell 4 rfl) (by omega) (by omega) (fun v3 ev3 rv3 => ?_)
    refine hd_if_ne pkX12_isClosed rfl (fun c4 => ?_) (fun c4 => ?_)
    · skip
      refine hd_ipush (z := 0) pkX12_isClosed rfl ?_
      refine hd_zret pkX12_isClosed rfl (by omega) ?_
      subst eQ
      refine ⟨rfl, rfl, Or.inr ⟨rfl, ?_⟩, rfl⟩
      unfold cz12
      omega
    · skip
      refine hd_ipush (z := 1) pkX12_isClosed rfl ?_
      refine hd_goto pkX12_isClosed rfl ?_
      refine hd_zret pkX12_isClosed rfl (by omega) ?_
      subst eQ
      refine ⟨rfl, rfl, Or.inl ⟨rfl, ?_⟩, rfl⟩
      unfold cz12
      omega
set_option maxRecDepth 20000 in
set_option maxHeartbeats 8000000 in
theorem h_X12_isHeading {h : MH} {d : Int} (hd : 0 ≤ d ∧ d ≤ 16) (g : Str t12c r12c h) : MCal KX12_isHeading yX12_isHeading 0 0 [(2, ((2449 : Nat) : Int)), (0, d)] h (mRI fun v h' => Tv12 v (hdF h d) ∧ h' = h) := by
  refine MCal.ofMW (Or.inl rfl) ⟨cp_X12, rfl⟩ (Nat.le_of_ble_eq_true rfl) ?_
  generalize eQ : (mRI fun v h' => Tv12 v (hdF h d) ∧ h' = h : MO → MH → Prop) = Q
  change MW KX12_isHeading Q 0 0 (pcA pgX12_isHeading 0) [(0, (2, ((2449 : Nat) : Int))), (1, (0, d))] [] h
  refine hd_locI (i := 1) rfl (fun rd => ?_)
  refine hd_iload pkX12_isHeading rfl rfl ?_
  refine hd_ipush (z := 16) pkX12_isHeading rfl ?_
  refine hd_ic_ge pkX12_isHeading rfl (fun c1 => ?_) (fun c1 => ?_)
  · skip
    refine hd_ipush (z := 0) pkX12_isHeading rfl ?_
    refine hd_zret pkX12_isHeading rfl (by omega) ?_
    subst eQ
    refine ⟨rfl, rfl, Or.inr ⟨rfl, ?_⟩, rfl⟩
    unfold hdF
    omega
  · skip
    refine hd_aload pkX12_isHeading rfl rfl (Int.natCast_nonneg _) ?_
    refine hd_getI pkX12_isHeading rfl (g.cell 0 rfl).1 (g.cell 0 rfl).2.1 (fun v2 ev2 rv2 => ?_)
    replace ev2 : v2 = ga h 2449 12 := ev2
    refine hd_ipush (z := 2) pkX12_isHeading rfl ?_
    refine hd_ic_eq pkX12_isHeading rfl (fun c3 => ?_) (fun c3 => ?_)
    · skip
      refine hd_ipush (z := 1) pkX12_isHeading rfl ?_
      refine hd_goto pkX12_isHeading rfl ?_
      refine hd_zret pkX12_isHeading rfl (by omega) ?_
      subst eQ
      refine ⟨rfl, rfl, Or.inl ⟨rfl, ?_⟩, rfl⟩
      unfold hdF
      omega
    · skip
      refine hd_iload pkX12_isHeading rfl rfl ?_
      refine hd_ipush (z := 2) pkX12_isHeading rfl ?_
      refine hd_irem pkX12_isHeading rfl (by omega) (by have e9 := emod_of (x := d) (y := 2) (by omega) (by omega); omega) ?_
      generalize ema : (Int.tmod d 2) = ma
      rw [(emod_of (by omega) (by omega)).1] at ema
      refine hd_if_ne pkX12_isHeading rfl (fun c4 => ?_) (fun c4 => ?_)
      · skip
        refine hd_ipush (z := 0) pkX12_isHeading rfl ?_
        refine hd_zret pkX12_isHeading rfl (by omega) ?_
        subst eQ
        refine ⟨rfl, rfl, Or.inr ⟨rfl, ?_⟩, rfl⟩
        unfold hdF
        omega
      · skip
        refine hd_ipush (z := 1) pkX12_isHeading rfl ?_
        refine hd_goto pkX12_isHeading rfl ?_
        refine hd_zret pkX12_isHeading rfl (by omega) ?_
        subst eQ
        refine ⟨rfl, rfl, Or.inl ⟨rfl, ?_⟩, rfl⟩
        unfold hdF
        omega
set_option maxRecDepth 20000 in
set_option maxHeartbeats 8000000 in
theorem h_X12_mayTurn {h : MH} {l d b : Int} (hl : 0 ≤ l ∧ l ≤ 16) (hd : 0 ≤ d ∧ d ≤ 15) (g : Str t12c r12c h) : MCal KX12_mayTurn yX12_mayTurn 0 0 [(2, ((2449 : Nat) : Int)), (0, l), (0, d), (0, b)] h (mRI fun v h' => Tv12 v (tuF h l d b) ∧ h' = h) := by
  refine MCal.ofMW (Or.inl rfl) ⟨cp_X12, rfl⟩ (Nat.le_of_ble_eq_true rfl) ?_
  generalize eQ : (mRI fun v h' => Tv12 v (tuF h l d b) ∧ h' = h : MO → MH → Prop) = Q
  change MW KX12_mayTurn Q 0 0 (pcA pgX12_mayTurn 0) [(0, (2, ((2449 : Nat) : Int))), (1, (0, l)), (2, (0, d)), (3, (0, b))] [] h
  refine hd_locI (i := 1) rfl (fun rl => ?_)
  refine hd_locI (i := 2) rfl (fun rd => ?_)
  refine hd_locI (i := 3) rfl (fun rb => ?_)
  refine hd_iload pkX12_mayTurn rfl rfl ?_
  refine hd_ipush (z := 16) pkX12_mayTurn rfl ?_
  refine hd_ic_ne pkX12_mayTurn rfl (fun c1 => ?_) (fun c1 => ?_)
  · skip
    refine hd_iload pkX12_mayTurn rfl rfl ?_
    refine hd_iload pkX12_mayTurn rfl rfl ?_
    refine hd_ic_le pkX12_mayTurn rfl (fun c2 => ?_) (fun c2 => ?_)
    · skip
      refine hd_iload pkX12_mayTurn rfl rfl ?_
      refine hd_iload pkX12_mayTurn rfl rfl ?_
      refine hd_isub pkX12_mayTurn rfl (by omega) ?_
      refine hd_istore pkX12_mayTurn rfl rfl ?_
      change MW _ _ _ _ _ [(4, (0, (d - l))), (0, (2, ((2449 : Nat) : Int))), (1, (0, l)), (2, (0, d)), (3, (0, b))] _ _
      refine hd_iload pkX12_mayTurn rfl rfl ?_
      refine hd_ipush (z := 8) pkX12_mayTurn rfl ?_
      refine hd_ic_le pkX12_mayTurn rfl (fun c3 => ?_) (fun c3 => ?_)
      · skip
        refine hd_iload pkX12_mayTurn rfl rfl ?_
        refine hd_istore pkX12_mayTurn rfl rfl ?_
        change MW _ _ _ _ _ [(4, (0, (d - l))), (0, (2, ((2449 : Nat) : Int))), (1, (0, l)), (2, (0, d)), (3, (0, b))] _ _
        refine hd_iload pkX12_mayTurn rfl rfl ?_
        refine hd_iload pkX12_mayTurn rfl rfl ?_
        refine hd_if_eq pkX12_mayTurn rfl (fun c4 => ?_) (fun c4 => ?_)
        · skip
          refine hd_aload pkX12_mayTurn rfl rfl (Int.natCast_nonneg _) ?_
          refine hd_getI pkX12_mayTurn rfl (g.cell 0 rfl).1 (g.cell 0 rfl).2.1 (fun v5 ev5 rv5 => ?_)
          replace ev5 : v5 = ga h 2449 14 := ev5
          refine hd_ic_gt pkX12_mayTurn rfl (fun c6 => ?_) (fun c6 => ?_)
          · skip
            refine hd_ipush (z := 0) pkX12_mayTurn rfl ?_
            refine hd_zret pkX12_mayTurn rfl (by omega) ?_
            subst eQ
            refine ⟨rfl, rfl, Or.inr ⟨rfl, ?_⟩, rfl⟩
            unfold tuF bzF byF
            repeat' split
            all_goals omega
          · skip
            refine hd_ipush (z := 1) pkX12_mayTurn rfl ?_
            refine hd_goto pkX12_mayTurn rfl ?_
            refine hd_zret pkX12_mayTurn rfl (by omega) ?_
            subst eQ
            refine ⟨rfl, rfl, Or.inl ⟨rfl, ?_⟩, rfl⟩
            unfold tuF bzF byF
            repeat' split
            all_goals omega
        · skip
          refine hd_ipush (z := 0) pkX12_mayTurn rfl ?_
          refine hd_goto pkX12_mayTurn rfl ?_
          refine hd_ic_gt pkX12_mayTurn rfl (fun c7 => ?_) (fun c7 => ?_)
          · skip
            refine hd_ipush (z := 0) pkX12_mayTurn rfl ?_
            refine hd_zret pkX12_mayTurn rfl (by omega) ?_
            subst eQ
            refine ⟨rfl, rfl, Or.inr ⟨rfl, ?_⟩, rfl⟩
            unfold tuF bzF byF
            repeat' split
            all_goals omega
          · skip
            refine hd_ipush (z := 1) pkX12_mayTurn rfl ?_
            refine hd_goto pkX12_mayTurn rfl ?_
            refine hd_zret pkX12_mayTurn rfl (by omega) ?_
            subst eQ
            refine ⟨rfl, rfl, Or.inl ⟨rfl, ?_⟩, rfl⟩
            unfold tuF bzF byF
            repeat' split
            all_goals omega
      · skip
        refine hd_ipush (z := 16) pkX12_mayTurn rfl ?_
        refine hd_iload pkX12_mayTurn rfl rfl ?_
        refine hd_isub pkX12_mayTurn rfl (by omega) ?_
        refine hd_goto pkX12_mayTurn rfl ?_
        refine hd_istore pkX12_mayTurn rfl rfl ?_
        change MW _ _ _ _ _ [(4, (0, (16 - (d - l)))), (0, (2, ((2449 : Nat) : Int))), (1, (0, l)), (2, (0, d)), (3, (0, b))] _ _
        refine hd_iload pkX12_mayTurn rfl rfl ?_
        refine hd_iload pkX12_mayTurn rfl rfl ?_
        refine hd_if_eq pkX12_mayTurn rfl (fun c8 => ?_) (fun c8 => ?_)
        · skip
          refine hd_aload pkX12_mayTurn rfl rfl (Int.natCast_nonneg _) ?_
          refine hd_getI pkX12_mayTurn rfl (g.cell 0 rfl).1 (g.cell 0 rfl).2.1 (fun v9 ev9 rv9 => ?_)
          replace ev9 : v9 = ga h 2449 14 := ev9
          refine hd_ic_gt pkX12_mayTurn rfl (fun c10 => ?_) (fun c10 => ?_)
          · skip
            refine hd_ipush (z := 0) pkX12_mayTurn rfl ?_
            refine hd_zret pkX12_mayTurn rfl (by omega) ?_
            subst eQ
            refine ⟨rfl, rfl, Or.inr ⟨rfl, ?_⟩, rfl⟩
            unfold tuF bzF byF
            repeat' split
            all_goals omega
          · skip
            refine hd_ipush (z := 1) pkX12_mayTurn rfl ?_
            refine hd_goto pkX12_mayTurn rfl ?_
            refine hd_zret pkX12_mayTurn rfl (by omega) ?_
            subst eQ
            refine ⟨rfl, rfl, Or.inl ⟨rfl, ?_⟩, rfl⟩
            unfold tuF bzF byF
            repeat' split
            all_goals omega
        · skip
          refine hd_ipush (z := 0) pkX12_mayTurn rfl ?_
          refine hd_goto pkX12_mayTurn rfl ?_
          refine hd_ic_gt pkX12_mayTurn rfl (fun c11 => ?_) (fun c11 => ?_)
          · skip
            refine hd_ipush (z := 0) pkX12_mayTurn rfl ?_
            refine hd_zret pkX12_mayTurn rfl (by omega) ?_
            subst eQ
            refine ⟨rfl, rfl, Or.inr ⟨rfl, ?_⟩, rfl⟩
            unfold tuF bzF byF
            repeat' split
            all_goals omega
          · skip
            refine hd_ipush (z := 1) pkX12_mayTurn rfl ?_
            refine hd_goto pkX12_mayTurn rfl ?_
            refine hd_zret pkX12_mayTurn rfl (by omega) ?_
            subst eQ
            refine ⟨rfl, rfl, Or.inl ⟨rfl, ?_⟩, rfl⟩
            unfold tuF bzF byF
            repeat' split
            all_goals omega
    · skip
      refine hd_iload pkX12_mayTurn rfl rfl ?_
      refine hd_iload pkX12_mayTurn rfl rfl ?_
      refine hd_isub pkX12_mayTurn rfl (by omega) ?_
      refine hd_goto pkX12_mayTurn rfl ?_
      refine hd_istore pkX12_mayTurn rfl rfl ?_
      change MW _ _ _ _ _ [(4, (0, (l - d))), (0, (2, ((2449 : Nat) : Int))), (1, (0, l)), (2, (0, d)), (3, (0, b))] _ _
      refine hd_iload pkX12_mayTurn rfl rfl ?_
      refine hd_ipush (z := 8) pkX12_mayTurn rfl ?_
      refine hd_ic_le pkX12_mayTurn rfl (fun c12 => ?_) (fun c12 => ?_)
      · skip
        refine hd_iload pkX12_mayTurn rfl rfl ?_
        refine hd_istore pkX12_mayTurn rfl rfl ?_
        change MW _ _ _ _ _ [(4, (0, (l - d))), (0, (2, ((2449 : Nat) : Int))), (1, (0, l)), (2, (0, d)), (3, (0, b))] _ _
        refine hd_iload pkX12_mayTurn rfl rfl ?_
        refine hd_iload pkX12_mayTurn rfl rfl ?_
        refine hd_if_eq pkX12_mayTurn rfl (fun c13 => ?_) (fun c13 => ?_)
        · skip
          refine hd_aload pkX12_mayTurn rfl rfl (Int.natCast_nonneg _) ?_
          refine hd_getI pkX12_mayTurn rfl (g.cell 0 rfl).1 (g.cell 0 rfl).2.1 (fun v14 ev14 rv14 => ?_)
          replace ev14 : v14 = ga h 2449 14 := ev14
          refine hd_ic_gt pkX12_mayTurn rfl (fun c15 => ?_) (fun c15 => ?_)
          · skip
            refine hd_ipush (z := 0) pkX12_mayTurn rfl ?_
            refine hd_zret pkX12_mayTurn rfl (by omega) ?_
            subst eQ
            refine ⟨rfl, rfl, Or.inr ⟨rfl, ?_⟩, rfl⟩
            unfold tuF bzF byF
            repeat' split
            all_goals omega
          · skip
            refine hd_ipush (z := 1) pkX12_mayTurn rfl ?_
            refine hd_goto pkX12_mayTurn rfl ?_
            refine hd_zret pkX12_mayTurn rfl (by omega) ?_
            subst eQ
            refine ⟨rfl, rfl, Or.inl ⟨rfl, ?_⟩, rfl⟩
            unfold tuF bzF byF
            repeat' split
            all_goals omega
        · skip
          refine hd_ipush (z := 0) pkX12_mayTurn rfl ?_
          refine hd_goto pkX12_mayTurn rfl ?_
          refine hd_ic_gt pkX12_mayTurn rfl (fun c16 => ?_) (fun c16 => ?_)
          · skip
            refine hd_ipush (z := 0) pkX12_mayTurn rfl ?_
            refine hd_zret pkX12_mayTurn rfl (by omega) ?_
            subst eQ
            refine ⟨rfl, rfl, Or.inr ⟨rfl, ?_⟩, rfl⟩
            unfold tuF bzF byF
            repeat' split
            all_goals omega
          · skip
            refine hd_ipush (z := 1) pkX12_mayTurn rfl ?_
            refine hd_goto pkX12_mayTurn rfl ?_
            refine hd_zret pkX12_mayTurn rfl (by omega) ?_
            subst eQ
            refine ⟨rfl, rfl, Or.inl ⟨rfl, ?_⟩, rfl⟩
            unfold tuF bzF byF
            repeat' split
            all_goals omega
      · skip
        refine hd_ipush (z := 16) pkX12_mayTurn rfl ?_
        refine hd_iload pkX12_mayTurn rfl rfl ?_
        refine hd_isub pkX12_mayTurn rfl (by omega) ?_
        refine hd_goto pkX12_mayTurn rfl ?_
        refine hd_istore pkX12_mayTurn rfl rfl ?_
        change MW _ _ _ _ _ [(4, (0, (16 - (l - d)))), (0, (2, ((2449 : Nat) : Int))), (1, (0, l)), (2, (0, d)), (3, (0, b))] _ _
        refine hd_iload pkX12_mayTurn rfl rfl ?_
        refine hd_iload pkX12_mayTurn rfl rfl ?_
        refine hd_if_eq pkX12_mayTurn rfl (fun c17 => ?_) (fun c17 => ?_)
        · skip
          refine hd_aload pkX12_mayTurn rfl rfl (Int.natCast_nonneg _) ?_
          refine hd_getI pkX12_mayTurn rfl (g.cell 0 rfl).1 (g.cell 0 rfl).2.1 (fun v18 ev18 rv18 => ?_)
          replace ev18 : v18 = ga h 2449 14 := ev18
          refine hd_ic_gt pkX12_mayTurn rfl (fun c19 => ?_) (fun c19 => ?_)
          · skip
            refine hd_ipush (z := 0) pkX12_mayTurn rfl ?_
            refine hd_zret pkX12_mayTurn rfl (by omega) ?_
            subst eQ
            refine ⟨rfl, rfl, Or.inr ⟨rfl, ?_⟩, rfl⟩
            unfold tuF bzF byF
            repeat' split
            all_goals omega
          · skip
            refine hd_ipush (z := 1) pkX12_mayTurn rfl ?_
            refine hd_goto pkX12_mayTurn rfl ?_
            refine hd_zret pkX12_mayTurn rfl (by omega) ?_
            subst eQ
            refine ⟨rfl, rfl, Or.inl ⟨rfl, ?_⟩, rfl⟩
            unfold tuF bzF byF
            repeat' split
            all_goals omega
        · skip
          refine hd_ipush (z := 0) pkX12_mayTurn rfl ?_
          refine hd_goto pkX12_mayTurn rfl ?_
          refine hd_ic_gt pkX12_mayTurn rfl (fun c20 => ?_) (fun c20 => ?_)
          · skip
            refine hd_ipush (z := 0) pkX12_mayTurn rfl ?_
            refine hd_zret pkX12_mayTurn rfl (by omega) ?_
            subst eQ
            refine ⟨rfl, rfl, Or.inr ⟨rfl, ?_⟩, rfl⟩
            unfold tuF bzF byF
            repeat' split
            all_goals omega
          · skip
            refine hd_ipush (z := 1) pkX12_mayTurn rfl ?_
            refine hd_goto pkX12_mayTurn rfl ?_
            refine hd_zret pkX12_mayTurn rfl (by omega) ?_
            subst eQ
            refine ⟨rfl, rfl, Or.inl ⟨rfl, ?_⟩, rfl⟩
            unfold tuF bzF byF
            repeat' split
            all_goals omega
  · skip
    refine hd_ipush (z := 1) pkX12_mayTurn rfl ?_
    refine hd_zret pkX12_mayTurn rfl (by omega) ?_
    subst eQ
    refine ⟨rfl, rfl, Or.inl ⟨rfl, ?_⟩, rfl⟩
    unfold tuF bzF byF
    repeat' split
    all_goals omega
set_option maxRecDepth 20000 in
set_option maxHeartbeats 8000000 in
theorem h_X12_shares {h : MH} {c : Int} (hc : 0 ≤ c ∧ c ≤ 143) (g : Str t12c r12c h) : MCal KX12_shares yX12_shares 0 0 [(2, ((2449 : Nat) : Int)), (0, c)] h (mRI fun v h' => v = shF h c ∧ h' = h) := by
  refine MCal.ofMW (Or.inl rfl) ⟨cp_X12, rfl⟩ (Nat.le_of_ble_eq_true rfl) ?_
  generalize eQ : (mRI fun v h' => v = shF h c ∧ h' = h : MO → MH → Prop) = Q
  change MW KX12_shares Q 0 0 (pcA pgX12_shares 0) [(0, (2, ((2449 : Nat) : Int))), (1, (0, c))] [] h
  refine hd_locI (i := 1) rfl (fun rc => ?_)
  refine hd_aload pkX12_shares rfl rfl (Int.natCast_nonneg _) ?_
  refine hd_getR (n := 2464) pkX12_shares rfl (g.cell 0 rfl).1 (g.cell 0 rfl).2.1 (g.ref 14 rfl) ?_
  refine hd_iload pkX12_shares rfl rfl ?_
  refine hd_zald (n := 144) pkX12_shares rfl (g.cell 15 rfl) (by omega) (by omega) (fun v1 ev1 rv1 => ?_)
  refine hd_if_eq pkX12_shares rfl (fun c2 => ?_) (fun c2 => ?_)
  · skip
    refine hd_ipush (z := 0) pkX12_shares rfl ?_
    refine hd_iret pkX12_shares rfl ?_
    subst eQ
    refine ⟨rfl, rfl, ?_, rfl⟩
    unfold shF
    rw [if_pos (by omega)]
  · skip
    refine hd_iload pkX12_shares rfl rfl ?_
    refine hd_aload pkX12_shares rfl rfl (Int.natCast_nonneg _) ?_
    refine hd_getI pkX12_shares rfl (g.cell 0 rfl).1 (g.cell 0 rfl).2.1 (fun v3 ev3 rv3 => ?_)
    replace ev3 : v3 = ga h 2449 21 := ev3
    refine hd_ic_eq pkX12_shares rfl (fun c4 => ?_) (fun c4 => ?_)
    · skip
      refine hd_ipush (z := 0) pkX12_shares rfl ?_
      refine hd_iret pkX12_shares rfl ?_
      subst eQ
      refine ⟨rfl, rfl, ?_, rfl⟩
      unfold shF
      rw [if_neg (by omega), if_pos (by omega)]
    · skip
      refine hd_ipush (z := 1) pkX12_shares rfl ?_
      refine hd_goto pkX12_shares rfl ?_
      refine hd_iret pkX12_shares rfl ?_
      subst eQ
      refine ⟨rfl, rfl, ?_, rfl⟩
      unfold shF
      rw [if_neg (by omega), if_neg (by omega)]
set_option maxRecDepth 20000 in
set_option maxHeartbeats 8000000 in
theorem h_X12_label {h : MH} {a b c e : Int} (ha : 0 ≤ a ∧ a ≤ 143) (hb : 0 ≤ b ∧ b ≤ 16) (hc : 0 ≤ c ∧ c ≤ 3) (he : 0 ≤ e ∧ e ≤ 8) (g : Str t12c r12c h) : MCal KX12_label yX12_label 0 0 [(0, a), (0, b), (0, c), (0, e)] h (mRI fun v h' => v = 612 * a + 36 * b + 9 * c + e ∧ h' = h) := by
  refine MCal.ofMW (Or.inl rfl) ⟨cp_X12, rfl⟩ (Nat.le_of_ble_eq_true rfl) ?_
  generalize eQ : (mRI fun v h' => v = 612 * a + 36 * b + 9 * c + e ∧ h' = h : MO → MH → Prop) = Q
  change MW KX12_label Q 0 0 (pcA pgX12_label 0) [(0, (0, a)), (1, (0, b)), (2, (0, c)), (3, (0, e))] [] h
  refine hd_locI (i := 0) rfl (fun ra => ?_)
  refine hd_locI (i := 1) rfl (fun rb => ?_)
  refine hd_locI (i := 2) rfl (fun rc => ?_)
  refine hd_locI (i := 3) rfl (fun re => ?_)
  refine hd_ipush (z := 612) pkX12_label rfl ?_
  refine hd_iload pkX12_label rfl rfl ?_
  refine hd_imul pkX12_label rfl (by omega) ?_
  refine hd_ipush (z := 36) pkX12_label rfl ?_
  refine hd_iload pkX12_label rfl rfl ?_
  refine hd_imul pkX12_label rfl (by omega) ?_
  refine hd_iadd pkX12_label rfl (by omega) ?_
  refine hd_ipush (z := 9) pkX12_label rfl ?_
  refine hd_iload pkX12_label rfl rfl ?_
  refine hd_imul pkX12_label rfl (by omega) ?_
  refine hd_iadd pkX12_label rfl (by omega) ?_
  refine hd_iload pkX12_label rfl rfl ?_
  refine hd_iadd pkX12_label rfl (by omega) ?_
  refine hd_iret pkX12_label rfl ?_
  subst eQ
  exact ⟨rfl, rfl, rfl, rfl⟩
set_option maxRecDepth 20000 in
set_option maxHeartbeats 8000000 in
theorem h_X12_isRun {h : MH} {c r : Int} (hc : 0 ≤ c ∧ c ≤ 143) (g : Str t12c r12c h) : MCal KX12_isRun yX12_isRun 0 0 [(2, ((2449 : Nat) : Int)), (0, c), (0, r)] h (mRI fun v h' => Tv12 v (rnF h c r) ∧ h' = h) := by
  refine MCal.ofMW (Or.inl rfl) ⟨cp_X12, rfl⟩ (Nat.le_of_ble_eq_true rfl) ?_
  generalize eQ : (mRI fun v h' => Tv12 v (rnF h c r) ∧ h' = h : MO → MH → Prop) = Q
  change MW KX12_isRun Q 0 0 (pcA pgX12_isRun 0) [(0, (2, ((2449 : Nat) : Int))), (1, (0, c)), (2, (0, r))] [] h
  refine hd_locI (i := 1) rfl (fun rc => ?_)
  refine hd_locI (i := 2) rfl (fun rr => ?_)
  refine hd_aload pkX12_isRun rfl rfl (Int.natCast_nonneg _) ?_
  refine hd_iload pkX12_isRun rfl rfl ?_
  refine hd_callV pkX12_isRun rfl (q := (KX12_isBridged, yX12_isBridged, 12, 1, 0)) rfl rfl rfl (As := [(0, c)]) (rest := []) (c := 2449) rfl rfl (Nat.le_of_ble_eq_true rfl) (g.cell 0 rfl).1 (g.cell 0 rfl).2.1 (h_X12_isBridged hc g) (hd_bI (fun w1 hc2 pb => ?_))
  obtain ⟨pb, ehc2⟩ := pb
  replace ehc2 := ehc2.symm
  subst ehc2
  refine hd_if_eq pkX12_isRun rfl (fun c3 => ?_) (fun c3 => ?_)
  · skip
    have zb := pb.f c3
    refine hd_iload pkX12_isRun rfl rfl ?_
    refine hd_if_ne pkX12_isRun rfl (fun c4 => ?_) (fun c4 => ?_)
    · skip
      refine hd_ipush (z := 0) pkX12_isRun rfl ?_
      refine hd_zret pkX12_isRun rfl (by omega) ?_
      subst eQ
      refine ⟨rfl, rfl, Or.inr ⟨rfl, ?_⟩, rfl⟩
      intro z
      have := z.2 zb
      omega
    · skip
      refine hd_ipush (z := 1) pkX12_isRun rfl ?_
      refine hd_goto pkX12_isRun rfl ?_
      refine hd_zret pkX12_isRun rfl (by omega) ?_
      subst eQ
      refine ⟨rfl, rfl, Or.inl ⟨rfl, ?_⟩, rfl⟩
      exact ⟨fun z => absurd z zb, fun _ => by omega⟩
  · skip
    have zb := pb.t c3
    refine hd_iload pkX12_isRun rfl rfl ?_
    refine hd_ipush (z := 1) pkX12_isRun rfl ?_
    refine hd_ic_lt pkX12_isRun rfl (fun c5 => ?_) (fun c5 => ?_)
    · skip
      refine hd_ipush (z := 0) pkX12_isRun rfl ?_
      refine hd_goto pkX12_isRun rfl ?_
      refine hd_zret pkX12_isRun rfl (by omega) ?_
      subst eQ
      refine ⟨rfl, rfl, Or.inr ⟨rfl, ?_⟩, rfl⟩
      intro z
      have := z.1 zb
      omega
    · skip
      refine hd_iload pkX12_isRun rfl rfl ?_
      refine hd_aload pkX12_isRun rfl rfl (Int.natCast_nonneg _) ?_
      refine hd_getR (n := 2453) pkX12_isRun rfl (g.cell 0 rfl).1 (g.cell 0 rfl).2.1 (g.ref 3 rfl) ?_
      refine hd_iload pkX12_isRun rfl rfl ?_
      refine hd_iald (n := 144) pkX12_isRun rfl (g.cell 4 rfl) (by omega) (by omega) (fun v6 ev6 rv6 => ?_)
      refine hd_ic_gt pkX12_isRun rfl (fun c7 => ?_) (fun c7 => ?_)
      · skip
        refine hd_ipush (z := 0) pkX12_isRun rfl ?_
        refine hd_goto pkX12_isRun rfl ?_
        refine hd_zret pkX12_isRun rfl (by omega) ?_
        subst eQ
        refine ⟨rfl, rfl, Or.inr ⟨rfl, ?_⟩, rfl⟩
        intro z
        have := z.1 zb
        omega
      · skip
        refine hd_ipush (z := 1) pkX12_isRun rfl ?_
        refine hd_goto pkX12_isRun rfl ?_
        refine hd_zret pkX12_isRun rfl (by omega) ?_
        subst eQ
        refine ⟨rfl, rfl, Or.inl ⟨rfl, ?_⟩, rfl⟩
        exact ⟨fun _ => ⟨by omega, by omega⟩, fun z => absurd zb z⟩
set_option maxRecDepth 20000 in
set_option maxHeartbeats 8000000 in
theorem h_X12_may {h : MH} {a l b d : Int} (ha : 0 ≤ a ∧ a ≤ 143) (hl : 0 ≤ l ∧ l ≤ 16) (hb : 0 ≤ b ∧ b ≤ 143) (hd : 0 ≤ d ∧ d ≤ 15) (s12 : Set12 h) (g : Str t12c r12c h) : MCal KX12_may yX12_may 0 0 [(2, ((2449 : Nat) : Int)), (0, a), (0, l), (0, b), (0, d)] h (mRI fun v h' => Tv12 v (mayF h a l b d) ∧ h' = h) := by
  refine MCal.ofMW (Or.inl rfl) ⟨cp_X12, rfl⟩ (Nat.le_of_ble_eq_true rfl) ?_
  generalize eQ : (mRI fun v h' => Tv12 v (mayF h a l b d) ∧ h' = h : MO → MH → Prop) = Q
  change MW KX12_may Q 0 0 (pcA pgX12_may 0) [(0, (2, ((2449 : Nat) : Int))), (1, (0, a)), (2, (0, l)), (3, (0, b)), (4, (0, d))] [] h
  refine hd_locI (i := 1) rfl (fun ra => ?_)
  refine hd_locI (i := 2) rfl (fun rl => ?_)
  refine hd_locI (i := 3) rfl (fun rb => ?_)
  refine hd_locI (i := 4) rfl (fun rd => ?_)
  have la := (s12.2.2.2.2.2.2.2.1 a ha.1 ha.2).2.1
  have lb := (s12.2.2.2.2.2.2.2.1 b hb.1 hb.2).2.1
  have sl := s12.2.2.1
  refine hd_aload pkX12_may rfl rfl (Int.natCast_nonneg _) ?_
  refine hd_getR (n := 2451) pkX12_may rfl (g.cell 0 rfl).1 (g.cell 0 rfl).2.1 (g.ref 1 rfl) ?_
  refine hd_iload pkX12_may rfl rfl ?_
  refine hd_iald (n := 144) pkX12_may rfl (g.cell 2 rfl) (by omega) (by omega) (fun v1 ev1 rv1 => ?_)
  refine hd_aload pkX12_may rfl rfl (Int.natCast_nonneg _) ?_
  refine hd_getR (n := 2451) pkX12_may rfl (g.cell 0 rfl).1 (g.cell 0 rfl).2.1 (g.ref 1 rfl) ?_
  refine hd_iload pkX12_may rfl rfl ?_
  refine hd_iald (n := 144) pkX12_may rfl (g.cell 2 rfl) (by omega) (by omega) (fun v2 ev2 rv2 => ?_)
  refine hd_isub pkX12_may rfl (by omega) ?_
  refine hd_istore pkX12_may rfl rfl ?_
  change MW _ _ _ _ _ [(5, (0, (v1 - v2))), (0, (2, ((2449 : Nat) : Int))), (1, (0, a)), (2, (0, l)), (3, (0, b)), (4, (0, d))] _ _
  refine hd_aload pkX12_may rfl rfl (Int.natCast_nonneg _) ?_
  refine hd_iload pkX12_may rfl rfl ?_
  refine hd_callV pkX12_may rfl (q := (KX12_isHeading, yX12_isHeading, 12, 1, 0)) rfl rfl rfl (As := [(0, d)]) (rest := []) (c := 2449) rfl rfl (Nat.le_of_ble_eq_true rfl) (g.cell 0 rfl).1 (g.cell 0 rfl).2.1 (h_X12_isHeading ⟨hd.1, by omega⟩ g) (hd_bI (fun w3 hc4 ph => ?_))
  obtain ⟨ph, ehc4⟩ := ph
  replace ehc4 := ehc4.symm
  subst ehc4
  refine hd_if_eq pkX12_may rfl (fun c5 => ?_) (fun c5 => ?_)
  · skip
    have xh := ph.f c5
    refine hd_ipush (z := 0) pkX12_may rfl ?_
    refine hd_zret pkX12_may rfl (by omega) ?_
    subst eQ
    refine ⟨rfl, rfl, Or.inr ⟨rfl, fun z => ?_⟩, rfl⟩
    exact xh z.1
  · skip
    have xh := ph.t c5
    refine hd_aload pkX12_may rfl rfl (Int.natCast_nonneg _) ?_
    refine hd_iload pkX12_may rfl rfl ?_
    refine hd_callV pkX12_may rfl (q := (KX12_isClosed, yX12_isClosed, 12, 1, 0)) rfl rfl rfl (As := [(0, a)]) (rest := []) (c := 2449) rfl rfl (Nat.le_of_ble_eq_true rfl) (g.cell 0 rfl).1 (g.cell 0 rfl).2.1 (h_X12_isClosed ha g) (hd_bI (fun w6 hc7 pa => ?_))
    obtain ⟨pa, ehc7⟩ := pa
    replace ehc7 := ehc7.symm
    subst ehc7
    refine hd_if_ne pkX12_may rfl (fun c8 => ?_) (fun c8 => ?_)
    · skip
      have xa := pa.t c8
      refine hd_ipush (z := 0) pkX12_may rfl ?_
      refine hd_zret pkX12_may rfl (by omega) ?_
      subst eQ
      refine ⟨rfl, rfl, Or.inr ⟨rfl, fun z => ?_⟩, rfl⟩
      exact z.2.1 xa
    · skip
      have xa := pa.f (by omega)
      refine hd_aload pkX12_may rfl rfl (Int.natCast_nonneg _) ?_
      refine hd_iload pkX12_may rfl rfl ?_
      refine hd_callV pkX12_may rfl (q := (KX12_isClosed, yX12_isClosed, 12, 1, 0)) rfl rfl rfl (As := [(0, b)]) (rest := []) (c := 2449) rfl rfl (Nat.le_of_ble_eq_true rfl) (g.cell 0 rfl).1 (g.cell 0 rfl).2.1 (h_X12_isClosed hb g) (hd_bI (fun w9 hc10 pb => ?_))
      obtain ⟨pb, ehc10⟩ := pb
      replace ehc10 := ehc10.symm
      subst ehc10
      refine hd_if_ne pkX12_may rfl (fun c11 => ?_) (fun c11 => ?_)
      · skip
        have xb := pb.t c11
        refine hd_ipush (z := 0) pkX12_may rfl ?_
        refine hd_zret pkX12_may rfl (by omega) ?_
        subst eQ
        refine ⟨rfl, rfl, Or.inr ⟨rfl, fun z => ?_⟩, rfl⟩
        exact z.2.2.1 xb
      · skip
        have xb := pb.f (by omega)
        refine hd_iload pkX12_may rfl rfl ?_
        refine hd_if_ge pkX12_may rfl (fun c12 => ?_) (fun c12 => ?_)
        · skip
          refine hd_iload pkX12_may rfl rfl ?_
          refine hd_aload pkX12_may rfl rfl (Int.natCast_nonneg _) ?_
          refine hd_getI pkX12_may rfl (g.cell 0 rfl).1 (g.cell 0 rfl).2.1 (fun v13 ev13 rv13 => ?_)
          replace ev13 : v13 = ga h 2449 13 := ev13
          refine hd_ic_gt pkX12_may rfl (fun c14 => ?_) (fun c14 => ?_)
          · skip
            refine hd_ipush (z := 0) pkX12_may rfl ?_
            refine hd_zret pkX12_may rfl (by omega) ?_
            subst eQ
            refine ⟨rfl, rfl, Or.inr ⟨rfl, fun z => ?_⟩, rfl⟩
            have z4 := z.2.2.2.1
            unfold upF at z4
            split at z4 <;> omega
          · skip
            refine hd_aload pkX12_may rfl rfl (Int.natCast_nonneg _) ?_
            refine hd_iload pkX12_may rfl rfl ?_
            refine hd_iload pkX12_may rfl rfl ?_
            refine hd_aload pkX12_may rfl rfl (Int.natCast_nonneg _) ?_
            refine hd_iload pkX12_may rfl rfl ?_
            refine hd_callV pkX12_may rfl (q := (KX12_isBridged, yX12_isBridged, 12, 1, 0)) rfl rfl rfl (As := [(0, a)]) (rest := [(0, d), (0, l), (2, ((2449 : Nat) : Int))]) (c := 2449) rfl rfl (Nat.le_of_ble_eq_true rfl) (g.cell 0 rfl).1 (g.cell 0 rfl).2.1 (h_X12_isBridged ha g) (hd_bI (fun w15 hc16 qa => ?_))
            obtain ⟨qa, ehc16⟩ := qa
            replace ehc16 := ehc16.symm
            subst ehc16
            refine hd_if_ne pkX12_may rfl (fun c17 => ?_) (fun c17 => ?_)
            · skip
              have za := qa.t c17
              refine hd_ipush (z := 1) pkX12_may rfl ?_
              refine hd_goto pkX12_may rfl ?_
              refine hd_callV pkX12_may rfl (q := (KX12_mayTurn, yX12_mayTurn, 12, 3, 0)) rfl rfl rfl (As := [(0, l), (0, d), (0, 1)]) (rest := []) (c := 2449) rfl rfl (Nat.le_of_ble_eq_true rfl) (g.cell 0 rfl).1 (g.cell 0 rfl).2.1 (h_X12_mayTurn hl hd g) (hd_bI (fun w18 hc19 pt => ?_))
              obtain ⟨pt, ehc19⟩ := pt
              replace ehc19 := ehc19.symm
              subst ehc19
              refine hd_if_eq pkX12_may rfl (fun c20 => ?_) (fun c20 => ?_)
              · skip
                have xt := pt.f c20
                refine hd_ipush (z := 0) pkX12_may rfl ?_
                refine hd_zret pkX12_may rfl (by omega) ?_
                subst eQ
                refine ⟨rfl, rfl, Or.inr ⟨rfl, fun z => ?_⟩, rfl⟩
                exact xt (z.2.2.2.2.1 (Or.inl za))
              · skip
                have xt := pt.t c20
                refine hd_ipush (z := 1) pkX12_may rfl ?_
                refine hd_goto pkX12_may rfl ?_
                refine hd_zret pkX12_may rfl (by omega) ?_
                subst eQ
                refine ⟨rfl, rfl, Or.inl ⟨rfl, xh, xa, xb, ?_, ?_, ?_⟩, rfl⟩
                · unfold upF
                  split <;> omega
                · exact fun _ => xt
                · exact fun z => absurd (Or.inl za) z
            · skip
              have za := qa.f (by omega)
              refine hd_aload pkX12_may rfl rfl (Int.natCast_nonneg _) ?_
              refine hd_iload pkX12_may rfl rfl ?_
              refine hd_callV pkX12_may rfl (q := (KX12_isBridged, yX12_isBridged, 12, 1, 0)) rfl rfl rfl (As := [(0, b)]) (rest := [(0, d), (0, l), (2, ((2449 : Nat) : Int))]) (c := 2449) rfl rfl (Nat.le_of_ble_eq_true rfl) (g.cell 0 rfl).1 (g.cell 0 rfl).2.1 (h_X12_isBridged hb g) (hd_bI (fun w21 hc22 qb => ?_))
              obtain ⟨qb, ehc22⟩ := qb
              replace ehc22 := ehc22.symm
              subst ehc22
              refine hd_if_eq pkX12_may rfl (fun c23 => ?_) (fun c23 => ?_)
              · skip
                have zb := qb.f c23
                refine hd_ipush (z := 0) pkX12_may rfl ?_
                refine hd_callV pkX12_may rfl (q := (KX12_mayTurn, yX12_mayTurn, 12, 3, 0)) rfl rfl rfl (As := [(0, l), (0, d), (0, 0)]) (rest := []) (c := 2449) rfl rfl (Nat.le_of_ble_eq_true rfl) (g.cell 0 rfl).1 (g.cell 0 rfl).2.1 (h_X12_mayTurn hl hd g) (hd_bI (fun w24 hc25 pt => ?_))
                obtain ⟨pt, ehc25⟩ := pt
                replace ehc25 := ehc25.symm
                subst ehc25
                refine hd_if_eq pkX12_may rfl (fun c26 => ?_) (fun c26 => ?_)
                · skip
                  have xt := pt.f c26
                  refine hd_ipush (z := 0) pkX12_may rfl ?_
                  refine hd_zret pkX12_may rfl (by omega) ?_
                  subst eQ
                  refine ⟨rfl, rfl, Or.inr ⟨rfl, fun z => ?_⟩, rfl⟩
                  exact xt (z.2.2.2.2.2 fun w => w.elim za zb)
                · skip
                  have xt := pt.t c26
                  refine hd_ipush (z := 1) pkX12_may rfl ?_
                  refine hd_goto pkX12_may rfl ?_
                  refine hd_zret pkX12_may rfl (by omega) ?_
                  subst eQ
                  refine ⟨rfl, rfl, Or.inl ⟨rfl, xh, xa, xb, ?_, ?_, ?_⟩, rfl⟩
                  · unfold upF
                    split <;> omega
                  · exact fun z => (z.elim za zb).elim
                  · exact fun _ => xt
              · skip
                have zb := qb.t c23
                refine hd_ipush (z := 1) pkX12_may rfl ?_
                refine hd_goto pkX12_may rfl ?_
                refine hd_callV pkX12_may rfl (q := (KX12_mayTurn, yX12_mayTurn, 12, 3, 0)) rfl rfl rfl (As := [(0, l), (0, d), (0, 1)]) (rest := []) (c := 2449) rfl rfl (Nat.le_of_ble_eq_true rfl) (g.cell 0 rfl).1 (g.cell 0 rfl).2.1 (h_X12_mayTurn hl hd g) (hd_bI (fun w27 hc28 pt => ?_))
                obtain ⟨pt, ehc28⟩ := pt
                replace ehc28 := ehc28.symm
                subst ehc28
                refine hd_if_eq pkX12_may rfl (fun c29 => ?_) (fun c29 => ?_)
                · skip
                  have xt := pt.f c29
                  refine hd_ipush (z := 0) pkX12_may rfl ?_
                  refine hd_zret pkX12_may rfl (by omega) ?_
                  subst eQ
                  refine ⟨rfl, rfl, Or.inr ⟨rfl, fun z => ?_⟩, rfl⟩
                  exact xt (z.2.2.2.2.1 (Or.inr zb))
                · skip
                  have xt := pt.t c29
                  refine hd_ipush (z := 1) pkX12_may rfl ?_
                  refine hd_goto pkX12_may rfl ?_
                  refine hd_zret pkX12_may rfl (by omega) ?_
                  subst eQ
                  refine ⟨rfl, rfl, Or.inl ⟨rfl, xh, xa, xb, ?_, ?_, ?_⟩, rfl⟩
                  · unfold upF
                    split <;> omega
                  · exact fun _ => xt
                  · exact fun z => absurd (Or.inr zb) z
        · skip
          refine hd_iload pkX12_may rfl rfl ?_
          refine hd_ineg pkX12_may rfl (by omega) ?_
          refine hd_goto pkX12_may rfl ?_
          refine hd_aload pkX12_may rfl rfl (Int.natCast_nonneg _) ?_
          refine hd_getI pkX12_may rfl (g.cell 0 rfl).1 (g.cell 0 rfl).2.1 (fun v30 ev30 rv30 => ?_)
          replace ev30 : v30 = ga h 2449 13 := ev30
          refine hd_ic_gt pkX12_may rfl (fun c31 => ?_) (fun c31 => ?_)
          · skip
            refine hd_ipush (z := 0) pkX12_may rfl ?_
            refine hd_zret pkX12_may rfl (by omega) ?_
            subst eQ
            refine ⟨rfl, rfl, Or.inr ⟨rfl, fun z => ?_⟩, rfl⟩
            have z4 := z.2.2.2.1
            unfold upF at z4
            split at z4 <;> omega
          · skip
            refine hd_aload pkX12_may rfl rfl (Int.natCast_nonneg _) ?_
            refine hd_iload pkX12_may rfl rfl ?_
            refine hd_iload pkX12_may rfl rfl ?_
            refine hd_aload pkX12_may rfl rfl (Int.natCast_nonneg _) ?_
            refine hd_iload pkX12_may rfl rfl ?_
            refine hd_callV pkX12_may rfl (q := (KX12_isBridged, yX12_isBridged, 12, 1, 0)) rfl rfl rfl (As := [(0, a)]) (rest := [(0, d), (0, l), (2, ((2449 : Nat) : Int))]) (c := 2449) rfl rfl (Nat.le_of_ble_eq_true rfl) (g.cell 0 rfl).1 (g.cell 0 rfl).2.1 (h_X12_isBridged ha g) (hd_bI (fun w32 hc33 qa => ?_))
            obtain ⟨qa, ehc33⟩ := qa
            replace ehc33 := ehc33.symm
            subst ehc33
            refine hd_if_ne pkX12_may rfl (fun c34 => ?_) (fun c34 => ?_)
            · skip
              have za := qa.t c34
              refine hd_ipush (z := 1) pkX12_may rfl ?_
              refine hd_goto pkX12_may rfl ?_
              refine hd_callV pkX12_may rfl (q := (KX12_mayTurn, yX12_mayTurn, 12, 3, 0)) rfl rfl rfl (As := [(0, l), (0, d), (0, 1)]) (rest := []) (c := 2449) rfl rfl (Nat.le_of_ble_eq_true rfl) (g.cell 0 rfl).1 (g.cell 0 rfl).2.1 (h_X12_mayTurn hl hd g) (hd_bI (fun w35 hc36 pt => ?_))
              obtain ⟨pt, ehc36⟩ := pt
              replace ehc36 := ehc36.symm
              subst ehc36
              refine hd_if_eq pkX12_may rfl (fun c37 => ?_) (fun c37 => ?_)
              · skip
                have xt := pt.f c37
                refine hd_ipush (z := 0) pkX12_may rfl ?_
                refine hd_zret pkX12_may rfl (by omega) ?_
                subst eQ
                refine ⟨rfl, rfl, Or.inr ⟨rfl, fun z => ?_⟩, rfl⟩
                exact xt (z.2.2.2.2.1 (Or.inl za))
              · skip
                have xt := pt.t c37
                refine hd_ipush (z := 1) pkX12_may rfl ?_
                refine hd_goto pkX12_may rfl ?_
                refine hd_zret pkX12_may rfl (by omega) ?_
                subst eQ
                refine ⟨rfl, rfl, Or.inl ⟨rfl, xh, xa, xb, ?_, ?_, ?_⟩, rfl⟩
                · unfold upF
                  split <;> omega
                · exact fun _ => xt
                · exact fun z => absurd (Or.inl za) z
            · skip
              have za := qa.f (by omega)
              refine hd_aload pkX12_may rfl rfl (Int.natCast_nonneg _) ?_
              refine hd_iload pkX12_may rfl rfl ?_
              refine hd_callV pkX12_may rfl (q := (KX12_isBridged, yX12_isBridged, 12, 1, 0)) rfl rfl rfl (As := [(0, b)]) (rest := [(0, d), (0, l), (2, ((2449 : Nat) : Int))]) (c := 2449) rfl rfl (Nat.le_of_ble_eq_true rfl) (g.cell 0 rfl).1 (g.cell 0 rfl).2.1 (h_X12_isBridged hb g) (hd_bI (fun w38 hc39 qb => ?_))
              obtain ⟨qb, ehc39⟩ := qb
              replace ehc39 := ehc39.symm
              subst ehc39
              refine hd_if_eq pkX12_may rfl (fun c40 => ?_) (fun c40 => ?_)
              · skip
                have zb := qb.f c40
                refine hd_ipush (z := 0) pkX12_may rfl ?_
                refine hd_callV pkX12_may rfl (q := (KX12_mayTurn, yX12_mayTurn, 12, 3, 0)) rfl rfl rfl (As := [(0, l), (0, d), (0, 0)]) (rest := []) (c := 2449) rfl rfl (Nat.le_of_ble_eq_true rfl) (g.cell 0 rfl).1 (g.cell 0 rfl).2.1 (h_X12_mayTurn hl hd g) (hd_bI (fun w41 hc42 pt => ?_))
                obtain ⟨pt, ehc42⟩ := pt
                replace ehc42 := ehc42.symm
                subst ehc42
                refine hd_if_eq pkX12_may rfl (fun c43 => ?_) (fun c43 => ?_)
                · skip
                  have xt := pt.f c43
                  refine hd_ipush (z := 0) pkX12_may rfl ?_
                  refine hd_zret pkX12_may rfl (by omega) ?_
                  subst eQ
                  refine ⟨rfl, rfl, Or.inr ⟨rfl, fun z => ?_⟩, rfl⟩
                  exact xt (z.2.2.2.2.2 fun w => w.elim za zb)
                · skip
                  have xt := pt.t c43
                  refine hd_ipush (z := 1) pkX12_may rfl ?_
                  refine hd_goto pkX12_may rfl ?_
                  refine hd_zret pkX12_may rfl (by omega) ?_
                  subst eQ
                  refine ⟨rfl, rfl, Or.inl ⟨rfl, xh, xa, xb, ?_, ?_, ?_⟩, rfl⟩
                  · unfold upF
                    split <;> omega
                  · exact fun z => (z.elim za zb).elim
                  · exact fun _ => xt
              · skip
                have zb := qb.t c40
                refine hd_ipush (z := 1) pkX12_may rfl ?_
                refine hd_goto pkX12_may rfl ?_
                refine hd_callV pkX12_may rfl (q := (KX12_mayTurn, yX12_mayTurn, 12, 3, 0)) rfl rfl rfl (As := [(0, l), (0, d), (0, 1)]) (rest := []) (c := 2449) rfl rfl (Nat.le_of_ble_eq_true rfl) (g.cell 0 rfl).1 (g.cell 0 rfl).2.1 (h_X12_mayTurn hl hd g) (hd_bI (fun w44 hc45 pt => ?_))
                obtain ⟨pt, ehc45⟩ := pt
                replace ehc45 := ehc45.symm
                subst ehc45
                refine hd_if_eq pkX12_may rfl (fun c46 => ?_) (fun c46 => ?_)
                · skip
                  have xt := pt.f c46
                  refine hd_ipush (z := 0) pkX12_may rfl ?_
                  refine hd_zret pkX12_may rfl (by omega) ?_
                  subst eQ
                  refine ⟨rfl, rfl, Or.inr ⟨rfl, fun z => ?_⟩, rfl⟩
                  exact xt (z.2.2.2.2.1 (Or.inr zb))
                · skip
                  have xt := pt.t c46
                  refine hd_ipush (z := 1) pkX12_may rfl ?_
                  refine hd_goto pkX12_may rfl ?_
                  refine hd_zret pkX12_may rfl (by omega) ?_
                  subst eQ
                  refine ⟨rfl, rfl, Or.inl ⟨rfl, xh, xa, xb, ?_, ?_, ?_⟩, rfl⟩
                  · unfold upF
                    split <;> omega
                  · exact fun _ => xt
                  · exact fun z => absurd (Or.inr zb) z
set_option maxRecDepth 20000 in
set_option maxHeartbeats 8000000 in
theorem h_X12_valueOf {h : MH} {c a : Int} (s12 : Set12 h) (hc : 0 ≤ c ∧ c ≤ 143) (ha : 0 ≤ a ∧ a ≤ 3) (g : Str t12c r12c h) : MCal KX12_valueOf yX12_valueOf 0 0 [(2, ((2449 : Nat) : Int)), (0, c), (0, a)] h (mRI fun v h' => v = vaF h c a ∧ h' = h) := by
  refine MCal.ofMW (Or.inl rfl) ⟨cp_X12, rfl⟩ (Nat.le_of_ble_eq_true rfl) ?_
  generalize eQ : (mRI fun v h' => v = vaF h c a ∧ h' = h : MO → MH → Prop) = Q
  change MW KX12_valueOf Q 0 0 (pcA pgX12_valueOf 0) [(0, (2, ((2449 : Nat) : Int))), (1, (0, c)), (2, (0, a))] [] h
  refine hd_locI (i := 1) rfl (fun rc => ?_)
  refine hd_locI (i := 2) rfl (fun ra => ?_)
  have vb := s12.2.2.2.2.2.2.2.2.1 (4 * c + a) (by omega) (by omega)
  refine hd_aload pkX12_valueOf rfl rfl (Int.natCast_nonneg _) ?_
  refine hd_getR (n := 2456) pkX12_valueOf rfl (g.cell 0 rfl).1 (g.cell 0 rfl).2.1 (g.ref 6 rfl) ?_
  refine hd_ipush (z := 4) pkX12_valueOf rfl ?_
  refine hd_iload pkX12_valueOf rfl rfl ?_
  refine hd_imul pkX12_valueOf rfl (by omega) ?_
  refine hd_iload pkX12_valueOf rfl rfl ?_
  refine hd_iadd pkX12_valueOf rfl (by omega) ?_
  refine hd_iald (n := 576) pkX12_valueOf rfl (g.cell 7 rfl) (by omega) (by omega) (fun v1 ev1 rv1 => ?_)
  refine hd_istore pkX12_valueOf rfl rfl ?_
  change MW _ _ _ _ _ [(3, (0, v1)), (0, (2, ((2449 : Nat) : Int))), (1, (0, c)), (2, (0, a))] _ _
  refine hd_ipush (z := 0) pkX12_valueOf rfl ?_
  refine hd_istore pkX12_valueOf rfl rfl ?_
  change MW _ _ _ _ _ [(4, (0, 0)), (3, (0, v1)), (0, (2, ((2449 : Nat) : Int))), (1, (0, c)), (2, (0, a))] _ _
  have lp11 : ∀ (N11 : Nat) (x p : Int), (0 ≤ p ∧ p ≤ 8) → (x = ga h 2456 (4 * c + a) + 10 * msF h c p.toNat) → (a = 3 ∨ p = 0) → (8 : Int) - p < (N11 : Int) → MW KX12_valueOf Q 0 0 (pcA pgX12_valueOf 11) [(0, (2, ((2449 : Nat) : Int))), (1, (0, c)), (2, (0, a)), (3, (0, x)), (4, (0, p))] [] h := by
    intro N11
    induction N11 with
    | zero => intro x p p0 xv pa hm11; exfalso; omega
    | succ N11 ih11 =>
      intro x p p0 xv pa hm11
      have mb := msF_b s12 hc.1 hc.2 (n := p.toNat) (by omega)
      refine hd_iload pkX12_valueOf rfl rfl ?_
      refine hd_ipush (z := 8) pkX12_valueOf rfl ?_
      refine hd_ic_ge pkX12_valueOf rfl (fun c2 => ?_) (fun c2 => ?_)
      · skip
        refine hd_iload pkX12_valueOf rfl rfl ?_
        refine hd_iret pkX12_valueOf rfl ?_
        subst eQ
        refine ⟨rfl, rfl, ?_, rfl⟩
        unfold vaF
        by_cases a3 : a = 3
        · have p8 : p.toNat = 8 := by omega
          rw [if_pos a3, xv, p8]
        · have p8 : p.toNat = 0 := by omega
          rw [if_neg a3, xv, p8]
          show _ + 10 * (0 : Int) = _
          omega
      · skip
        refine hd_iload pkX12_valueOf rfl rfl ?_
        refine hd_ipush (z := 3) pkX12_valueOf rfl ?_
        refine hd_ic_ne pkX12_valueOf rfl (fun c3 => ?_) (fun c3 => ?_)
        · skip
          refine hd_iload pkX12_valueOf rfl rfl ?_
          refine hd_iret pkX12_valueOf rfl ?_
          subst eQ
          refine ⟨rfl, rfl, ?_, rfl⟩
          unfold vaF
          by_cases a3 : a = 3
          · have p8 : p.toNat = 8 := by omega
            rw [if_pos a3, xv, p8]
          · have p8 : p.toNat = 0 := by omega
            rw [if_neg a3, xv, p8]
            show _ + 10 * (0 : Int) = _
            omega
        · skip
          refine hd_iload pkX12_valueOf rfl rfl ?_
          refine hd_ipush (z := 10) pkX12_valueOf rfl ?_
          refine hd_aload pkX12_valueOf rfl rfl (Int.natCast_nonneg _) ?_
          refine hd_getR (n := 2457) pkX12_valueOf rfl (g.cell 0 rfl).1 (g.cell 0 rfl).2.1 (g.ref 7 rfl) ?_
          refine hd_ipush (z := 8) pkX12_valueOf rfl ?_
          refine hd_iload pkX12_valueOf rfl rfl ?_
          refine hd_imul pkX12_valueOf rfl (by omega) ?_
          refine hd_iload pkX12_valueOf rfl rfl ?_
          refine hd_iadd pkX12_valueOf rfl (by omega) ?_
          refine hd_iald (n := 1152) pkX12_valueOf rfl (g.cell 8 rfl) (by omega) (by omega) (fun v4 ev4 rv4 => ?_)
          have kb : 0 ≤ v4 ∧ v4 ≤ 3 := by rw [ev4]; exact s12.2.2.2.2.2.2.2.2.2.1 (8 * c + p) (by omega) (by omega)
          refine hd_imul pkX12_valueOf rfl (by omega) ?_
          refine hd_iadd pkX12_valueOf rfl (by omega) ?_
          refine hd_istore pkX12_valueOf rfl rfl ?_
          change MW _ _ _ _ _ [(3, (0, (x + (10 * v4)))), (0, (2, ((2449 : Nat) : Int))), (1, (0, c)), (2, (0, a)), (4, (0, p))] _ _
          refine hd_iinc (z := 1) pkX12_valueOf rfl rfl (by omega) rfl ?_
          change MW _ _ _ _ _ [(4, (0, (p + 1))), (3, (0, (x + (10 * v4)))), (0, (2, ((2449 : Nat) : Int))), (1, (0, c)), (2, (0, a))] _ _
          refine hd_goto pkX12_valueOf rfl ?_
          refine m_sub [(0, (2, ((2449 : Nat) : Int))), (1, (0, c)), (2, (0, a)), (3, (0, (x + (10 * v4)))), (4, (0, (p + 1)))] (List.forall_mem_cons.mpr ⟨rfl, List.forall_mem_cons.mpr ⟨rfl, List.forall_mem_cons.mpr ⟨rfl, List.forall_mem_cons.mpr ⟨rfl, List.forall_mem_cons.mpr ⟨rfl, fun _ h => absurd h List.not_mem_nil⟩⟩⟩⟩⟩) ?_
          refine ih11  ((x + (10 * v4))) ((p + 1)) ?_ ?_ ?_ ?_
          · omega
          · rw [show (p + 1).toNat = p.toNat + 1 by omega]
            show _ = _ + 10 * (msF h c p.toNat + ga h 2457 (8 * c + (p.toNat : Int)))
            rw [show ((p.toNat : Nat) : Int) = p by omega]
            omega
          · omega
          · omega
  refine m_sub [(0, (2, ((2449 : Nat) : Int))), (1, (0, c)), (2, (0, a)), (3, (0, v1)), (4, (0, 0))] (List.forall_mem_cons.mpr ⟨rfl, List.forall_mem_cons.mpr ⟨rfl, List.forall_mem_cons.mpr ⟨rfl, List.forall_mem_cons.mpr ⟨rfl, List.forall_mem_cons.mpr ⟨rfl, fun _ h => absurd h List.not_mem_nil⟩⟩⟩⟩⟩) ?_
  refine lp11 (((8 : Int) - (0)) + 1).toNat (v1) (0) ?_ ?_ ?_ ?_
  · omega
  · show _ = _ + 10 * (0 : Int)
    omega
  · omega
  · omega
set_option maxRecDepth 20000 in
set_option maxHeartbeats 8000000 in
theorem h_X12_price {h : MH} {c d : Int} (s12 : Set12 h) (hc : 0 ≤ c ∧ c ≤ 143) (hd : 0 ≤ d ∧ d ≤ 15) (g : Str t12c r12c h) : MCal KX12_price yX12_price 0 0 [(2, ((2449 : Nat) : Int)), (0, c), (0, d)] h (mRL fun v h' => v = prF h c d ∧ h' = h) := by
  refine MCal.ofMW (Or.inl rfl) ⟨cp_X12, rfl⟩ (Nat.le_of_ble_eq_true rfl) ?_
  generalize eQ : (mRL fun v h' => v = prF h c d ∧ h' = h : MO → MH → Prop) = Q
  change MW KX12_price Q 0 0 (pcA pgX12_price 0) [(0, (2, ((2449 : Nat) : Int))), (1, (0, c)), (2, (0, d))] [] h
  refine hd_locI (i := 1) rfl (fun rc => ?_)
  refine hd_locI (i := 2) rfl (fun rd => ?_)
  have lb : 0 ≤ lnF d ∧ lnF d ≤ 22 := by have := lnF_b d; omega
  refine hd_aload pkX12_price rfl rfl (Int.natCast_nonneg _) ?_
  refine hd_iload pkX12_price rfl rfl ?_
  refine hd_callV pkX12_price rfl (q := (KX12_isBridged, yX12_isBridged, 12, 1, 0)) rfl rfl rfl (As := [(0, c)]) (rest := []) (c := 2449) rfl rfl (Nat.le_of_ble_eq_true rfl) (g.cell 0 rfl).1 (g.cell 0 rfl).2.1 (h_X12_isBridged hc g) (hd_bI (fun w1 hc2 pb => ?_))
  obtain ⟨pb, ehc2⟩ := pb
  replace ehc2 := ehc2.symm
  subst ehc2
  refine hd_if_eq pkX12_price rfl (fun c3 => ?_) (fun c3 => ?_)
  · skip
    have zb := pb.f c3
    refine hd_lpush (z := 60) pkX12_price rfl ?_
    refine hd_aload pkX12_price rfl rfl (Int.natCast_nonneg _) ?_
    refine hd_getR (n := 2450) pkX12_price rfl (g.cell 0 rfl).1 (g.cell 0 rfl).2.1 (g.ref 0 rfl) ?_
    refine hd_iload pkX12_price rfl rfl ?_
    refine hd_iald (n := 144) pkX12_price rfl (g.cell 1 rfl) (by omega) (by omega) (fun v4 ev4 rv4 => ?_)
    have b60 : 0 ≤ 60 * v4 ∧ 60 * v4 ≤ 59940 := by have := (s12.2.2.2.2.2.2.2.1 c hc.1 hc.2).1; omega
    refine hd_i2l pkX12_price rfl ?_
    refine hd_lmul pkX12_price rfl (by omega) ?_
    refine hd_lstore pkX12_price rfl rfl ?_
    change MW _ _ _ _ _ [(3, (1, (60 * v4))), (0, (2, ((2449 : Nat) : Int))), (1, (0, c)), (2, (0, d))] _ _
    refine hd_ipush (z := 0) pkX12_price rfl ?_
    refine hd_istore pkX12_price rfl rfl ?_
    change MW _ _ _ _ _ [(5, (0, 0)), (3, (1, (60 * v4))), (0, (2, ((2449 : Nat) : Int))), (1, (0, c)), (2, (0, d))] _ _
    have lp26 : ∀ (N26 : Nat) (x a : Int), (0 ≤ a ∧ a ≤ 4) → (x = psF h c a.toNat) → (4 : Int) - a < (N26 : Int) → MW KX12_price Q 0 0 (pcA pgX12_price 26) [(0, (2, ((2449 : Nat) : Int))), (1, (0, c)), (2, (0, d)), (3, (1, x)), (5, (0, a))] [] h := by
      intro N26
      induction N26 with
      | zero => intro x a a0 xv hm26; exfalso; omega
      | succ N26 ih26 =>
        intro x a a0 xv hm26
        have xb := psF_b s12 hc.1 hc.2 (n := a.toNat) (by omega)
        rw [← xv] at xb
        refine hd_iload pkX12_price rfl rfl ?_
        refine hd_ipush (z := 4) pkX12_price rfl ?_
        refine hd_ic_ge pkX12_price rfl (fun c5 => ?_) (fun c5 => ?_)
        · skip
          refine hd_lload pkX12_price rfl rfl ?_
          refine hd_iload pkX12_price rfl rfl ?_
          refine hd_callS pkX12_price rfl (q := (KX12_length, yX12_length, 12, 1, 1)) rfl rfl rfl (As := [(0, d)]) (rest := [(1, x)]) rfl rfl (Nat.le_of_ble_eq_true rfl) rfl (h_X12_length hd g) (hd_bI (fun w6 hc7 pl => ?_))
          obtain ⟨pl, ehc7⟩ := pl
          replace ehc7 := ehc7.symm
          subst ehc7
          subst pl
          refine hd_i2l pkX12_price rfl ?_
          refine hd_lmul pkX12_price rfl (by have := mul_bb (x := x) (a := 6007140) ⟨by omega, by omega⟩ lb; omega) ?_
          refine hd_lret pkX12_price rfl ?_
          subst eQ
          refine ⟨rfl, rfl, ?_, rfl⟩
          unfold prF
          rw [if_neg (show ¬ (ga h 2455 c ≠ 0 ∧ 0 < ga h 2453 c) from zb), xv, show a.toNat = 4 by omega]
        · skip
          refine hd_lload pkX12_price rfl rfl ?_
          refine hd_lpush (z := 60) pkX12_price rfl ?_
          refine hd_aload pkX12_price rfl rfl (Int.natCast_nonneg _) ?_
          refine hd_getR (n := 2458) pkX12_price rfl (g.cell 0 rfl).1 (g.cell 0 rfl).2.1 (g.ref 8 rfl) ?_
          refine hd_iload pkX12_price rfl rfl ?_
          refine hd_iald (n := 4) pkX12_price rfl (g.cell 9 rfl) (by omega) (by omega) (fun v8 ev8 rv8 => ?_)
          have PT := psF_t s12 hc.1 hc.2 (a := a) a0.1 (by omega)
          have qv8 : ga h 2458 a = v8 := ev8.symm
          subst qv8
          refine hd_i2l pkX12_price rfl ?_
          refine hd_lmul pkX12_price rfl (by omega) ?_
          refine hd_aload pkX12_price rfl rfl (Int.natCast_nonneg _) ?_
          refine hd_iload pkX12_price rfl rfl ?_
          refine hd_iload pkX12_price rfl rfl ?_
          refine hd_callV pkX12_price rfl (q := (KX12_valueOf, yX12_valueOf, 12, 2, 0)) rfl rfl rfl (As := [(0, c), (0, a)]) (rest := [(1, (60 * (ga h 2458 a))), (1, x)]) (c := 2449) rfl rfl (Nat.le_of_ble_eq_true rfl) (g.cell 0 rfl).1 (g.cell 0 rfl).2.1 (h_X12_valueOf s12 hc ⟨by omega, by omega⟩ g) (hd_bI (fun w9 hc10 pv => ?_))
          obtain ⟨pv, ehc10⟩ := pv
          replace ehc10 := ehc10.symm
          subst ehc10
          subst pv
          refine hd_i2l pkX12_price rfl ?_
          refine hd_lmul pkX12_price rfl (by omega) ?_
          refine hd_aload pkX12_price rfl rfl (Int.natCast_nonneg _) ?_
          refine hd_getR (n := 2459) pkX12_price rfl (g.cell 0 rfl).1 (g.cell 0 rfl).2.1 (g.ref 9 rfl) ?_
          refine hd_iload pkX12_price rfl rfl ?_
          refine hd_iald (n := 4) pkX12_price rfl (g.cell 10 rfl) (by omega) (by omega) (fun v11 ev11 rv11 => ?_)
          have qv11 : ga h 2459 a = v11 := ev11.symm
          subst qv11
          refine hd_i2l pkX12_price rfl ?_
          refine hd_ldiv pkX12_price rfl (by omega) (by rw [(tdiv12 PT.2.1.1 (by omega)).1]; omega) ?_
          generalize edq : (Int.tdiv ((60 * (ga h 2458 a)) * (vaF h c a)) (ga h 2459 a)) = dq
          rw [(tdiv12 PT.2.1.1 (by omega)).1] at edq
          refine hd_ladd pkX12_price rfl (by omega) ?_
          refine hd_lstore pkX12_price rfl rfl ?_
          change MW _ _ _ _ _ [(3, (1, (x + dq))), (0, (2, ((2449 : Nat) : Int))), (1, (0, c)), (2, (0, d)), (5, (0, a))] _ _
          refine hd_iinc (z := 1) pkX12_price rfl rfl (by omega) rfl ?_
          change MW _ _ _ _ _ [(5, (0, (a + 1))), (3, (1, (x + dq))), (0, (2, ((2449 : Nat) : Int))), (1, (0, c)), (2, (0, d))] _ _
          refine hd_goto pkX12_price rfl ?_
          refine m_sub [(0, (2, ((2449 : Nat) : Int))), (1, (0, c)), (2, (0, d)), (3, (1, (x + dq))), (5, (0, (a + 1)))] (List.forall_mem_cons.mpr ⟨rfl, List.forall_mem_cons.mpr ⟨rfl, List.forall_mem_cons.mpr ⟨rfl, List.forall_mem_cons.mpr ⟨rfl, List.forall_mem_cons.mpr ⟨rfl, fun _ h => absurd h List.not_mem_nil⟩⟩⟩⟩⟩) ?_
          refine ih26  ((x + dq)) ((a + 1)) ?_ ?_ ?_
          · omega
          · rw [show (a + 1).toNat = a.toNat + 1 by omega]
            show _ = psF h c a.toNat + (60 * ga h 2458 (a.toNat : Int) * vaF h c (a.toNat : Int)) / ga h 2459 (a.toNat : Int)
            rw [show ((a.toNat : Nat) : Int) = a by omega, ← xv, edq]
          · omega
    refine m_sub [(0, (2, ((2449 : Nat) : Int))), (1, (0, c)), (2, (0, d)), (3, (1, (60 * v4))), (5, (0, 0))] (List.forall_mem_cons.mpr ⟨rfl, List.forall_mem_cons.mpr ⟨rfl, List.forall_mem_cons.mpr ⟨rfl, List.forall_mem_cons.mpr ⟨rfl, List.forall_mem_cons.mpr ⟨rfl, fun _ h => absurd h List.not_mem_nil⟩⟩⟩⟩⟩) ?_
    refine lp26 (((4 : Int) - (0)) + 1).toNat ((60 * v4)) (0) ?_ ?_ ?_
    · omega
    · show _ = 60 * ga h 2450 c
      omega
    · omega
  · skip
    have zb := pb.t c3
    refine hd_lpush (z := 60) pkX12_price rfl ?_
    refine hd_aload pkX12_price rfl rfl (Int.natCast_nonneg _) ?_
    refine hd_getR (n := 2454) pkX12_price rfl (g.cell 0 rfl).1 (g.cell 0 rfl).2.1 (g.ref 4 rfl) ?_
    refine hd_iload pkX12_price rfl rfl ?_
    refine hd_iald (n := 144) pkX12_price rfl (g.cell 5 rfl) (by omega) (by omega) (fun v12 ev12 rv12 => ?_)
    have b60 : 0 ≤ 60 * ga h 2454 c ∧ 60 * ga h 2454 c ≤ 599940 := by have := (s12.2.2.2.2.2.2.2.1 c hc.1 hc.2).2.2.2; omega
    have qv12 : ga h 2454 c = v12 := ev12.symm
    subst qv12
    refine hd_i2l pkX12_price rfl ?_
    refine hd_lmul pkX12_price rfl (by omega) ?_
    refine hd_iload pkX12_price rfl rfl ?_
    refine hd_callS pkX12_price rfl (q := (KX12_length, yX12_length, 12, 1, 1)) rfl rfl rfl (As := [(0, d)]) (rest := [(1, (60 * (ga h 2454 c)))]) rfl rfl (Nat.le_of_ble_eq_true rfl) rfl (h_X12_length hd g) (hd_bI (fun w13 hc14 pl => ?_))
    obtain ⟨pl, ehc14⟩ := pl
    replace ehc14 := ehc14.symm
    subst ehc14
    subst pl
    refine hd_i2l pkX12_price rfl ?_
    refine hd_lmul pkX12_price rfl (by have := mul_bb b60 lb; omega) ?_
    refine hd_lret pkX12_price rfl ?_
    subst eQ
    refine ⟨rfl, rfl, ?_, rfl⟩
    show ((60 * (ga h 2454 c)) * (lnF d)) = prF h c d
    unfold prF
    rw [if_pos (show ga h 2455 c ≠ 0 ∧ 0 < ga h 2453 c from zb)]
set_option maxRecDepth 20000 in
set_option maxHeartbeats 8000000 in
theorem h_X12_onward {h : MH} {σ : MH} {c l r s d : Int} (sm : SM12 σ h) (s12 : Set12 h) (hc : 0 ≤ c ∧ c ≤ 143) (hl : 0 ≤ l ∧ l ≤ 16) (hr : 0 ≤ r ∧ r ≤ 3) (hs : 0 ≤ s ∧ s ≤ 8) (hd : 0 ≤ d ∧ d ≤ 15) (g : Str t12c r12c h) : MCal KX12_onward yX12_onward 0 0 [(2, ((2449 : Nat) : Int)), (0, c), (0, l), (0, r), (0, s), (0, d)] h (mRI fun v h' => ((v = -1 ∧ ¬ (on12 σ c l r d ∧ 0 ≤ s - shF σ (st12 c d) ∧ ga h 2463 (nxF σ c r s d) ≠ 0)) ∨ (0 ≤ v ∧ v = nxF σ c r s d ∧ on12 σ c l r d ∧ 0 ≤ s - shF σ (st12 c d) ∧ ga h 2463 (nxF σ c r s d) ≠ 0)) ∧ h' = h) := by
  refine MCal.ofMW (Or.inl rfl) ⟨cp_X12, rfl⟩ (Nat.le_of_ble_eq_true rfl) ?_
  generalize eQ : (mRI fun v h' => ((v = -1 ∧ ¬ (on12 σ c l r d ∧ 0 ≤ s - shF σ (st12 c d) ∧ ga h 2463 (nxF σ c r s d) ≠ 0)) ∨ (0 ≤ v ∧ v = nxF σ c r s d ∧ on12 σ c l r d ∧ 0 ≤ s - shF σ (st12 c d) ∧ ga h 2463 (nxF σ c r s d) ≠ 0)) ∧ h' = h : MO → MH → Prop) = Q
  change MW KX12_onward Q 0 0 (pcA pgX12_onward 0) [(0, (2, ((2449 : Nat) : Int))), (1, (0, c)), (2, (0, l)), (3, (0, r)), (4, (0, s)), (5, (0, d))] [] h
  refine hd_locI (i := 1) rfl (fun rc => ?_)
  refine hd_locI (i := 2) rfl (fun rl => ?_)
  refine hd_locI (i := 3) rfl (fun rr => ?_)
  refine hd_locI (i := 4) rfl (fun rs => ?_)
  refine hd_locI (i := 5) rfl (fun rd => ?_)
  refine hd_aload pkX12_onward rfl rfl (Int.natCast_nonneg _) ?_
  refine hd_iload pkX12_onward rfl rfl ?_
  refine hd_iload pkX12_onward rfl rfl ?_
  refine hd_callV pkX12_onward rfl (q := (KX12_step, yX12_step, 12, 2, 0)) rfl rfl rfl (As := [(0, c), (0, d)]) (rest := []) (c := 2449) rfl rfl (Nat.le_of_ble_eq_true rfl) (g.cell 0 rfl).1 (g.cell 0 rfl).2.1 (h_X12_step hc hd s12.1 g) (hd_bI (fun w1 hc2 pp => ?_))
  obtain ⟨pp, ehc2⟩ := pp
  replace ehc2 := ehc2.symm
  subst ehc2
  subst pp
  refine hd_istore pkX12_onward rfl rfl ?_
  change MW _ _ _ _ _ [(6, (0, (st12 c d))), (0, (2, ((2449 : Nat) : Int))), (1, (0, c)), (2, (0, l)), (3, (0, r)), (4, (0, s)), (5, (0, d))] _ _
  refine hd_iload pkX12_onward rfl rfl ?_
  refine hd_ipush (z := (-1)) pkX12_onward rfl ?_
  refine hd_ic_eq pkX12_onward rfl (fun c3 => ?_) (fun c3 => ?_)
  · skip
    have x7 := c3
    refine hd_ipush (z := (-1)) pkX12_onward rfl ?_
    refine hd_iret pkX12_onward rfl ?_
    subst eQ
    refine ⟨rfl, rfl, ?_, rfl⟩
    rw [← sm.on, ← sm.sh, ← sm.nx]
    refine Or.inl ⟨rfl, fun z => ?_⟩
    exact z.1.1 x7
  · skip
    have x7 := c3
    have sb := (st12_b c d).resolve_left x7
    have mb := (s12.2.2.2.2.2.2.2.1 _ sb.1 sb.2).2.2.1
    refine hd_aload pkX12_onward rfl rfl (Int.natCast_nonneg _) ?_
    refine hd_iload pkX12_onward rfl rfl ?_
    refine hd_iload pkX12_onward rfl rfl ?_
    refine hd_iload pkX12_onward rfl rfl ?_
    refine hd_iload pkX12_onward rfl rfl ?_
    refine hd_callV pkX12_onward rfl (q := (KX12_may, yX12_may, 12, 4, 0)) rfl rfl rfl (As := [(0, c), (0, l), (0, (st12 c d)), (0, d)]) (rest := []) (c := 2449) rfl rfl (Nat.le_of_ble_eq_true rfl) (g.cell 0 rfl).1 (g.cell 0 rfl).2.1 (h_X12_may hc hl sb hd s12 g) (hd_bI (fun w4 hc5 pm => ?_))
    obtain ⟨pm, ehc5⟩ := pm
    replace ehc5 := ehc5.symm
    subst ehc5
    refine hd_if_ne pkX12_onward rfl (fun c6 => ?_) (fun c6 => ?_)
    · skip
      have xm := pm.t c6
      refine hd_aload pkX12_onward rfl rfl (Int.natCast_nonneg _) ?_
      refine hd_iload pkX12_onward rfl rfl ?_
      refine hd_callV pkX12_onward rfl (q := (KX12_isBridged, yX12_isBridged, 12, 1, 0)) rfl rfl rfl (As := [(0, (st12 c d))]) (rest := []) (c := 2449) rfl rfl (Nat.le_of_ble_eq_true rfl) (g.cell 0 rfl).1 (g.cell 0 rfl).2.1 (h_X12_isBridged sb g) (hd_bI (fun w7 hc8 pb => ?_))
      obtain ⟨pb, ehc8⟩ := pb
      replace ehc8 := ehc8.symm
      subst ehc8
      refine hd_if_eq pkX12_onward rfl (fun c9 => ?_) (fun c9 => ?_)
      · skip
        have zb := pb.f c9
        have rb := rbF_f (r := r) zb
        refine hd_ipush (z := 0) pkX12_onward rfl ?_
        refine hd_istore pkX12_onward rfl rfl ?_
        change MW _ _ _ _ _ [(7, (0, 0)), (6, (0, (st12 c d))), (0, (2, ((2449 : Nat) : Int))), (1, (0, c)), (2, (0, l)), (3, (0, r)), (4, (0, s)), (5, (0, d))] _ _
        refine hd_iload pkX12_onward rfl rfl ?_
        refine hd_aload pkX12_onward rfl rfl (Int.natCast_nonneg _) ?_
        refine hd_iload pkX12_onward rfl rfl ?_
        refine hd_callV pkX12_onward rfl (q := (KX12_shares, yX12_shares, 12, 1, 0)) rfl rfl rfl (As := [(0, (st12 c d))]) (rest := [(0, s)]) (c := 2449) rfl rfl (Nat.le_of_ble_eq_true rfl) (g.cell 0 rfl).1 (g.cell 0 rfl).2.1 (h_X12_shares sb g) (hd_bI (fun w10 hc11 pq => ?_))
        obtain ⟨pq, ehc11⟩ := pq
        replace ehc11 := ehc11.symm
        subst ehc11
        subst pq
        have shb := shF_b h (st12 c d)
        refine hd_isub pkX12_onward rfl (by omega) ?_
        refine hd_istore pkX12_onward rfl rfl ?_
        change MW _ _ _ _ _ [(8, (0, (s - (shF h (st12 c d))))), (7, (0, 0)), (6, (0, (st12 c d))), (0, (2, ((2449 : Nat) : Int))), (1, (0, c)), (2, (0, l)), (3, (0, r)), (4, (0, s)), (5, (0, d))] _ _
        refine hd_iload pkX12_onward rfl rfl ?_
        refine hd_if_lt pkX12_onward rfl (fun c12 => ?_) (fun c12 => ?_)
        · skip
          refine hd_ipush (z := (-1)) pkX12_onward rfl ?_
          refine hd_iret pkX12_onward rfl ?_
          subst eQ
          refine ⟨rfl, rfl, ?_, rfl⟩
          rw [← sm.on, ← sm.sh, ← sm.nx]
          refine Or.inl ⟨rfl, fun z => ?_⟩
          have := z.2.1
          omega
        · skip
          refine hd_aload pkX12_onward rfl rfl (Int.natCast_nonneg _) ?_
          refine hd_iload pkX12_onward rfl rfl ?_
          refine hd_iload pkX12_onward rfl rfl ?_
          refine hd_callV pkX12_onward rfl (q := (KX12_isRun, yX12_isRun, 12, 2, 0)) rfl rfl rfl (As := [(0, (st12 c d)), (0, 0)]) (rest := []) (c := 2449) rfl rfl (Nat.le_of_ble_eq_true rfl) (g.cell 0 rfl).1 (g.cell 0 rfl).2.1 (h_X12_isRun sb g) (hd_bI (fun w13 hc14 pr => ?_))
          obtain ⟨pr, ehc14⟩ := pr
          replace ehc14 := ehc14.symm
          subst ehc14
          refine hd_if_ne pkX12_onward rfl (fun c15 => ?_) (fun c15 => ?_)
          · skip
            have xr := pr.t c15
            have r3 : (0 : Int) ≤ 0 ∧ 0 ≤ (3 : Int) := by first | omega | (have := xr.1 zb; omega)
            have en : nxF h c r s d = 612 * st12 c d + 36 * d + 9 * 0 + (s - shF h (st12 c d)) := by unfold nxF; rw [rb]
            refine hd_iload pkX12_onward rfl rfl ?_
            refine hd_iload pkX12_onward rfl rfl ?_
            refine hd_iload pkX12_onward rfl rfl ?_
            refine hd_iload pkX12_onward rfl rfl ?_
            refine hd_callS pkX12_onward rfl (q := (KX12_label, yX12_label, 12, 4, 1)) rfl rfl rfl (As := [(0, (st12 c d)), (0, d), (0, 0), (0, (s - (shF h (st12 c d))))]) (rest := []) rfl rfl (Nat.le_of_ble_eq_true rfl) rfl (h_X12_label sb ⟨hd.1, by omega⟩ r3 ⟨by omega, by omega⟩ g) (hd_bI (fun w16 hc17 pl => ?_))
            obtain ⟨pl, ehc17⟩ := pl
            replace ehc17 := ehc17.symm
            subst ehc17
            subst pl
            refine hd_istore pkX12_onward rfl rfl ?_
            change MW _ _ _ _ _ [(9, (0, (612 * (st12 c d) + 36 * d + 9 * 0 + (s - (shF h (st12 c d)))))), (8, (0, (s - (shF h (st12 c d))))), (7, (0, 0)), (6, (0, (st12 c d))), (0, (2, ((2449 : Nat) : Int))), (1, (0, c)), (2, (0, l)), (3, (0, r)), (4, (0, s)), (5, (0, d))] _ _
            refine hd_aload pkX12_onward rfl rfl (Int.natCast_nonneg _) ?_
            refine hd_getR (n := 2463) pkX12_onward rfl (g.cell 0 rfl).1 (g.cell 0 rfl).2.1 (g.ref 13 rfl) ?_
            refine hd_iload pkX12_onward rfl rfl ?_
            refine hd_zald (n := 88128) pkX12_onward rfl (g.cell 14 rfl) (by omega) (by omega) (fun v18 ev18 rv18 => ?_)
            refine hd_if_eq pkX12_onward rfl (fun c19 => ?_) (fun c19 => ?_)
            · skip
              refine hd_ipush (z := (-1)) pkX12_onward rfl ?_
              refine hd_iret pkX12_onward rfl ?_
              subst eQ
              refine ⟨rfl, rfl, ?_, rfl⟩
              rw [← sm.on, ← sm.sh, ← sm.nx]
              refine Or.inl ⟨rfl, fun z => ?_⟩
              have z3 := z.2.2
              rw [en] at z3
              omega
            · skip
              refine hd_iload pkX12_onward rfl rfl ?_
              refine hd_goto pkX12_onward rfl ?_
              refine hd_iret pkX12_onward rfl ?_
              subst eQ
              refine ⟨rfl, rfl, ?_, rfl⟩
              rw [← sm.on, ← sm.sh, ← sm.nx]
              exact Or.inr ⟨by show 0 ≤ (612 * (st12 c d) + 36 * d + 9 * 0 + (s - (shF h (st12 c d)))); omega, en.symm, ⟨x7, xm, by rw [rb]; exact xr⟩, by omega, by rw [en]; omega⟩
          · skip
            have xr := pr.f (by omega)
            refine hd_ipush (z := (-1)) pkX12_onward rfl ?_
            refine hd_iret pkX12_onward rfl ?_
            subst eQ
            refine ⟨rfl, rfl, ?_, rfl⟩
            rw [← sm.on, ← sm.sh, ← sm.nx]
            refine Or.inl ⟨rfl, fun z => ?_⟩
            have z3 := z.1.2.2
            rw [rb] at z3
            exact xr z3
      · skip
        have zb := pb.t c9
        have rb := rbF_t (r := r) zb
        refine hd_iload pkX12_onward rfl rfl ?_
        refine hd_ipush (z := 1) pkX12_onward rfl ?_
        refine hd_iadd pkX12_onward rfl (by omega) ?_
        refine hd_goto pkX12_onward rfl ?_
        refine hd_istore pkX12_onward rfl rfl ?_
        change MW _ _ _ _ _ [(7, (0, (r + 1))), (6, (0, (st12 c d))), (0, (2, ((2449 : Nat) : Int))), (1, (0, c)), (2, (0, l)), (3, (0, r)), (4, (0, s)), (5, (0, d))] _ _
        refine hd_iload pkX12_onward rfl rfl ?_
        refine hd_aload pkX12_onward rfl rfl (Int.natCast_nonneg _) ?_
        refine hd_iload pkX12_onward rfl rfl ?_
        refine hd_callV pkX12_onward rfl (q := (KX12_shares, yX12_shares, 12, 1, 0)) rfl rfl rfl (As := [(0, (st12 c d))]) (rest := [(0, s)]) (c := 2449) rfl rfl (Nat.le_of_ble_eq_true rfl) (g.cell 0 rfl).1 (g.cell 0 rfl).2.1 (h_X12_shares sb g) (hd_bI (fun w20 hc21 pq => ?_))
        obtain ⟨pq, ehc21⟩ := pq
        replace ehc21 := ehc21.symm
        subst ehc21
        subst pq
        have shb := shF_b h (st12 c d)
        refine hd_isub pkX12_onward rfl (by omega) ?_
        refine hd_istore pkX12_onward rfl rfl ?_
        change MW _ _ _ _ _ [(8, (0, (s - (shF h (st12 c d))))), (7, (0, (r + 1))), (6, (0, (st12 c d))), (0, (2, ((2449 : Nat) : Int))), (1, (0, c)), (2, (0, l)), (3, (0, r)), (4, (0, s)), (5, (0, d))] _ _
        refine hd_iload pkX12_onward rfl rfl ?_
        refine hd_if_lt pkX12_onward rfl (fun c22 => ?_) (fun c22 => ?_)
        · skip
          refine hd_ipush (z := (-1)) pkX12_onward rfl ?_
          refine hd_iret pkX12_onward rfl ?_
          subst eQ
          refine ⟨rfl, rfl, ?_, rfl⟩
          rw [← sm.on, ← sm.sh, ← sm.nx]
          refine Or.inl ⟨rfl, fun z => ?_⟩
          have := z.2.1
          omega
        · skip
          refine hd_aload pkX12_onward rfl rfl (Int.natCast_nonneg _) ?_
          refine hd_iload pkX12_onward rfl rfl ?_
          refine hd_iload pkX12_onward rfl rfl ?_
          refine hd_callV pkX12_onward rfl (q := (KX12_isRun, yX12_isRun, 12, 2, 0)) rfl rfl rfl (As := [(0, (st12 c d)), (0, (r + 1))]) (rest := []) (c := 2449) rfl rfl (Nat.le_of_ble_eq_true rfl) (g.cell 0 rfl).1 (g.cell 0 rfl).2.1 (h_X12_isRun sb g) (hd_bI (fun w23 hc24 pr => ?_))
          obtain ⟨pr, ehc24⟩ := pr
          replace ehc24 := ehc24.symm
          subst ehc24
          refine hd_if_ne pkX12_onward rfl (fun c25 => ?_) (fun c25 => ?_)
          · skip
            have xr := pr.t c25
            have r3 : (0 : Int) ≤ (r + 1) ∧ (r + 1) ≤ (3 : Int) := by first | omega | (have := xr.1 zb; omega)
            have en : nxF h c r s d = 612 * st12 c d + 36 * d + 9 * (r + 1) + (s - shF h (st12 c d)) := by unfold nxF; rw [rb]
            refine hd_iload pkX12_onward rfl rfl ?_
            refine hd_iload pkX12_onward rfl rfl ?_
            refine hd_iload pkX12_onward rfl rfl ?_
            refine hd_iload pkX12_onward rfl rfl ?_
            refine hd_callS pkX12_onward rfl (q := (KX12_label, yX12_label, 12, 4, 1)) rfl rfl rfl (As := [(0, (st12 c d)), (0, d), (0, (r + 1)), (0, (s - (shF h (st12 c d))))]) (rest := []) rfl rfl (Nat.le_of_ble_eq_true rfl) rfl (h_X12_label sb ⟨hd.1, by omega⟩ r3 ⟨by omega, by omega⟩ g) (hd_bI (fun w26 hc27 pl => ?_))
            obtain ⟨pl, ehc27⟩ := pl
            replace ehc27 := ehc27.symm
            subst ehc27
            subst pl
            refine hd_istore pkX12_onward rfl rfl ?_
            change MW _ _ _ _ _ [(9, (0, (612 * (st12 c d) + 36 * d + 9 * (r + 1) + (s - (shF h (st12 c d)))))), (8, (0, (s - (shF h (st12 c d))))), (7, (0, (r + 1))), (6, (0, (st12 c d))), (0, (2, ((2449 : Nat) : Int))), (1, (0, c)), (2, (0, l)), (3, (0, r)), (4, (0, s)), (5, (0, d))] _ _
            refine hd_aload pkX12_onward rfl rfl (Int.natCast_nonneg _) ?_
            refine hd_getR (n := 2463) pkX12_onward rfl (g.cell 0 rfl).1 (g.cell 0 rfl).2.1 (g.ref 13 rfl) ?_
            refine hd_iload pkX12_onward rfl rfl ?_
            refine hd_zald (n := 88128) pkX12_onward rfl (g.cell 14 rfl) (by omega) (by omega) (fun v28 ev28 rv28 => ?_)
            refine hd_if_eq pkX12_onward rfl (fun c29 => ?_) (fun c29 => ?_)
            · skip
              refine hd_ipush (z := (-1)) pkX12_onward rfl ?_
              refine hd_iret pkX12_onward rfl ?_
              subst eQ
              refine ⟨rfl, rfl, ?_, rfl⟩
              rw [← sm.on, ← sm.sh, ← sm.nx]
              refine Or.inl ⟨rfl, fun z => ?_⟩
              have z3 := z.2.2
              rw [en] at z3
              omega
            · skip
              refine hd_iload pkX12_onward rfl rfl ?_
              refine hd_goto pkX12_onward rfl ?_
              refine hd_iret pkX12_onward rfl ?_
              subst eQ
              refine ⟨rfl, rfl, ?_, rfl⟩
              rw [← sm.on, ← sm.sh, ← sm.nx]
              exact Or.inr ⟨by show 0 ≤ (612 * (st12 c d) + 36 * d + 9 * (r + 1) + (s - (shF h (st12 c d)))); omega, en.symm, ⟨x7, xm, by rw [rb]; exact xr⟩, by omega, by rw [en]; omega⟩
          · skip
            have xr := pr.f (by omega)
            refine hd_ipush (z := (-1)) pkX12_onward rfl ?_
            refine hd_iret pkX12_onward rfl ?_
            subst eQ
            refine ⟨rfl, rfl, ?_, rfl⟩
            rw [← sm.on, ← sm.sh, ← sm.nx]
            refine Or.inl ⟨rfl, fun z => ?_⟩
            have z3 := z.1.2.2
            rw [rb] at z3
            exact xr z3
    · skip
      have xm := pm.f (by omega)
      refine hd_ipush (z := (-1)) pkX12_onward rfl ?_
      refine hd_iret pkX12_onward rfl ?_
      subst eQ
      refine ⟨rfl, rfl, ?_, rfl⟩
      rw [← sm.on, ← sm.sh, ← sm.nx]
      refine Or.inl ⟨rfl, fun z => ?_⟩
      exact xm z.1.2.1
