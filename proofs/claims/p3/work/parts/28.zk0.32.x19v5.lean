set_option maxRecDepth 20000 in
set_option maxHeartbeats 8000000 in
theorem h_X19_lanes {h : MH} {n part cn : Int} (j19 : J19 h cn) (g : Str t19 r19 h) : MCal KX19_lanes yX19_lanes 0 0 [(2, ((2514 : Nat) : Int)), (0, n), (0, part)] h (mRL fun v h' => (-2 ≤ v ∧ v < 1000000000000000000) ∧ Only C19 h h' ∧ J19 h' cn ∧ Str t19 r19 h') := by
  refine MCal.ofMW (Or.inl rfl) ⟨cp_X19, rfl⟩ (Nat.le_of_ble_eq_true rfl) ?_
  generalize eQ : (mRL fun v h' => (-2 ≤ v ∧ v < 1000000000000000000) ∧ Only C19 h h' ∧ J19 h' cn ∧ Str t19 r19 h' : MO → MH → Prop) = Q
  change MW KX19_lanes Q 0 0 (pcA pgX19_lanes 0) [(0, (2, ((2514 : Nat) : Int))), (1, (0, n)), (2, (0, part))] [] h
  refine hd_locI (i := 1) rfl (fun rn => ?_)
  refine hd_locI (i := 2) rfl (fun rpart => ?_)
  have oo : Only C19 h h := Only.refl _ _
  have jj := j19
  obtain ⟨W, L, wl⟩ := j19.wl
  have cut13 : ∀ (_ : True), MW KX19_lanes Q 0 0 (pcA pgX19_lanes 13) [(0, (2, ((2514 : Nat) : Int))), (1, (0, n)), (2, (0, part))] [] h := by
    intro _
    refine hd_iload pkX19_lanes rfl rfl ?_
    refine hd_callS pkX19_lanes rfl (q := (KX19_none, yX19_none, 19, 1, 1)) rfl rfl rfl (As := [(0, part)]) (rest := []) rfl rfl (Nat.le_of_ble_eq_true rfl) rfl (h_X19_none g) (hd_bL (fun no hc1 po => ?_))
    obtain ⟨po, ehc1⟩ := po
    replace ehc1 := ehc1.symm
    subst ehc1
    refine hd_lret pkX19_lanes rfl ?_
    subst eQ
    refine ⟨rfl, rfl, ?_, oo, jj, g⟩
    show -2 ≤ no ∧ no < _
    rw [po]
    split <;> decide
  refine hd_aload pkX19_lanes rfl rfl (Int.natCast_nonneg _) ?_
  refine hd_getZ pkX19_lanes rfl (g.cell 0 rfl).1 (g.cell 0 rfl).2.1 (fun v2 ev2 rv2 => ?_)
  obtain ⟨hv, qv2⟩ : ∃ x : Int, x = v2 := ⟨_, rfl⟩
  subst qv2
  refine hd_if_eq pkX19_lanes rfl (fun c3 => ?_) (fun c3 => ?_)
  · skip
    refine cut13 trivial
  · skip
    refine hd_iload pkX19_lanes rfl rfl ?_
    refine hd_ipush (z := 1) pkX19_lanes rfl ?_
    refine hd_ic_lt pkX19_lanes rfl (fun c4 => ?_) (fun c4 => ?_)
    · skip
      refine cut13 trivial
    · skip
      refine hd_iload pkX19_lanes rfl rfl ?_
      refine hd_aload pkX19_lanes rfl rfl (Int.natCast_nonneg _) ?_
      refine hd_getI pkX19_lanes rfl (g.cell 0 rfl).1 (g.cell 0 rfl).2.1 (fun v5 ev5 rv5 => ?_)
      have l21 := j19.1.2.2.1.1
      have qv5 : ga h 2514 21 = v5 := ev5.symm
      subst qv5
      refine hd_ic_gt pkX19_lanes rfl (fun c6 => ?_) (fun c6 => ?_)
      · skip
        refine cut13 trivial
      · skip
        refine hd_iload pkX19_lanes rfl rfl ?_
        refine hd_ipush (z := (-1)) pkX19_lanes rfl ?_
        refine hd_ic_ge pkX19_lanes rfl (fun c7 => ?_) (fun c7 => ?_)
        · skip
          refine hd_aload pkX19_lanes rfl rfl (Int.natCast_nonneg _) ?_
          refine hd_iload pkX19_lanes rfl rfl ?_
          refine hd_callV pkX19_lanes rfl (q := (KX19_laneSum, yX19_laneSum, 19, 1, 0)) rfl rfl rfl (As := [(0, n)]) (rest := []) (c := 2514) rfl rfl (Nat.le_of_ble_eq_true rfl) (g.cell 0 rfl).1 (g.cell 0 rfl).2.1 (h_X19_laneSum jj.1 ⟨by omega, by omega⟩ wl g) (hd_bV (fun hc8 pl => ?_))
          have ghc8 : Str t19 r19 hc8 := g.only pl.1.1 (by decide)
          have oo := oo.trans (pl.1.1.mono (by decide))
          have jj := jj.ch pl.1 (by decide)
          have VR := pl.2.2
          refine hd_aload pkX19_lanes rfl rfl (Int.natCast_nonneg _) ?_
          refine hd_ipush (z := 17) pkX19_lanes rfl ?_
          refine hd_ipush (z := 18) pkX19_lanes rfl ?_
          refine hd_iload pkX19_lanes rfl rfl ?_
          refine hd_callV pkX19_lanes rfl (q := (KX19_told, yX19_told, 19, 3, 0)) rfl rfl rfl (As := [(0, 17), (0, 18), (0, part)]) (rest := []) (c := 2514) rfl rfl (Nat.le_of_ble_eq_true rfl) (ghc8.cell 0 rfl).1 (ghc8.cell 0 rfl).2.1 (h_X19_told (by decide) (by decide) (by decide) (by decide) VR.1.1 VR.1.2.1 VR.2.1.1 VR.2.1.2.1 ghc8) (hd_bL (fun tv hc9 pt => ?_))
          have ghc9 : Str t19 r19 hc9 := ghc8.only pt.1.1 (by decide)
          have oo := oo.trans (pt.1.1.mono (by decide))
          have jj := jj.ch pt.1 (by decide)
          have tr : -1 ≤ tv ∧ tv < 1000000000000000000 := by
            by_cases q : part < 0
            · have e := pt.2.1 q
              have s3 := VR.1.sg
              omega
            · have e := pt.2.2 (by omega)
              omega
          refine hd_lret pkX19_lanes rfl ?_
          subst eQ
          refine ⟨rfl, rfl, ?_, oo, jj, ghc9⟩
          show -2 ≤ tv ∧ tv < _
          omega
        · skip
          refine cut13 trivial
set_option maxRecDepth 20000 in
set_option maxHeartbeats 8000000 in
theorem h_X19_patch {h : MH} {pm part cn : Int} (j19 : J19 h cn) (g : Str t19 r19 h) : MCal KX19_patch yX19_patch 0 0 [(2, ((2514 : Nat) : Int)), (1, pm), (0, part)] h (mRL fun v h' => (-2 ≤ v ∧ v < 1000000000000000000) ∧ Only C19 h h' ∧ J19 h' cn ∧ Str t19 r19 h') := by
  refine MCal.ofMW (Or.inl rfl) ⟨cp_X19, rfl⟩ (Nat.le_of_ble_eq_true rfl) ?_
  generalize eQ : (mRL fun v h' => (-2 ≤ v ∧ v < 1000000000000000000) ∧ Only C19 h h' ∧ J19 h' cn ∧ Str t19 r19 h' : MO → MH → Prop) = Q
  change MW KX19_patch Q 0 0 (pcA pgX19_patch 0) [(0, (2, ((2514 : Nat) : Int))), (1, (1, pm)), (3, (0, part))] [] h
  refine hd_locL (i := 1) rfl (fun rpm => ?_)
  refine hd_locI (i := 3) rfl (fun rpart => ?_)
  have oo : Only C19 h h := Only.refl _ _
  have jj := j19
  obtain ⟨W, L, wl⟩ := j19.wl
  have cut11 : ∀ (_ : True), MW KX19_patch Q 0 0 (pcA pgX19_patch 11) [(0, (2, ((2514 : Nat) : Int))), (1, (1, pm)), (3, (0, part))] [] h := by
    intro _
    refine hd_iload pkX19_patch rfl rfl ?_
    refine hd_callS pkX19_patch rfl (q := (KX19_none, yX19_none, 19, 1, 1)) rfl rfl rfl (As := [(0, part)]) (rest := []) rfl rfl (Nat.le_of_ble_eq_true rfl) rfl (h_X19_none g) (hd_bL (fun no hc1 po => ?_))
    obtain ⟨po, ehc1⟩ := po
    replace ehc1 := ehc1.symm
    subst ehc1
    refine hd_lret pkX19_patch rfl ?_
    subst eQ
    refine ⟨rfl, rfl, ?_, oo, jj, g⟩
    show -2 ≤ no ∧ no < _
    rw [po]
    split <;> decide
  refine hd_lload pkX19_patch rfl rfl ?_
  refine hd_lpush (z := 0) pkX19_patch rfl ?_
  refine hd_lc_lt pkX19_patch rfl (fun c2 => ?_) (fun c2 => ?_)
  · skip
    refine cut11 trivial
  · skip
    refine hd_lload pkX19_patch rfl rfl ?_
    refine hd_lpush (z := 1000000) pkX19_patch rfl ?_
    refine hd_lc_gt pkX19_patch rfl (fun c3 => ?_) (fun c3 => ?_)
    · skip
      refine cut11 trivial
    · skip
      refine hd_iload pkX19_patch rfl rfl ?_
      refine hd_ipush (z := (-1)) pkX19_patch rfl ?_
      refine hd_ic_ge pkX19_patch rfl (fun c4 => ?_) (fun c4 => ?_)
      · skip
        refine hd_aload pkX19_patch rfl rfl (Int.natCast_nonneg _) ?_
        refine hd_callV pkX19_patch rfl (q := (KX19_area, yX19_area, 19, 0, 0)) rfl rfl rfl (As := []) (rest := []) (c := 2514) rfl rfl (Nat.le_of_ble_eq_true rfl) (g.cell 0 rfl).1 (g.cell 0 rfl).2.1 (h_X19_area jj.1 g) (hd_bV (fun hc5 pa => ?_))
        have ghc5 : Str t19 r19 hc5 := g.only pa.1.1 (by decide)
        have oo := oo.trans (pa.1.1.mono (by decide))
        have jj := jj.ch pa.1 (by decide)
        have VR := pa.2.1
        have bR := pa.2.2.sz (by have := jj.1.1.2.1; omega)
        refine hd_aload pkX19_patch rfl rfl (Int.natCast_nonneg _) ?_
        refine hd_ipush (z := 17) pkX19_patch rfl ?_
        refine hd_lload pkX19_patch rfl rfl ?_
        refine hd_callV pkX19_patch rfl (q := (KX19_times, yX19_times, 19, 2, 0)) rfl rfl rfl (As := [(0, 17), (1, pm)]) (rest := []) (c := 2514) rfl rfl (Nat.le_of_ble_eq_true rfl) (ghc5.cell 0 rfl).1 (ghc5.cell 0 rfl).2.1 (h_X19_times (m := 29) (n := 1) (by decide) (by decide) (by decide) (by decide) VR.1 (by omega) bR.1 (pw1 ⟨by omega, by omega⟩) (by decide) ghc5) (hd_bV (fun hc6 pt => ?_))
        have ghc6 : Str t19 r19 hc6 := ghc5.only pt.1.1 (by decide)
        have oo := oo.trans (pt.1.1.mono (by decide))
        have jj := jj.ch pt.1 (by decide)
        have V8 := VR.2.1.keep (by decide) pt.1 (by decide) (by decide)
        have V7 := pt.2
        have q0 := VR.2.2
        have b7 := PW_mk (k := 30) rfl bR.1 (pw1 (y := pm) ⟨by omega, by omega⟩)
        refine hd_aload pkX19_patch rfl rfl (Int.natCast_nonneg _) ?_
        refine hd_ipush (z := 17) pkX19_patch rfl ?_
        refine hd_ipush (z := 18) pkX19_patch rfl ?_
        refine hd_callV pkX19_patch rfl (q := (KX19_reduce, yX19_reduce, 19, 2, 0)) rfl rfl rfl (As := [(0, 17), (0, 18)]) (rest := []) (c := 2514) rfl rfl (Nat.le_of_ble_eq_true rfl) (ghc6.cell 0 rfl).1 (ghc6.cell 0 rfl).2.1 (h_X19_reduce (m := 30) (by decide) (by decide) (by decide) (by decide) (by decide) (by decide) (by decide) V7.1 V7.2.1 V8.1 (nv_vl V8 q0) (nv_su V7) q0 b7 (PW_up (PW_q q0 bR.2) (by decide)) (by decide) (by decide) ghc6) (hd_bV (fun hc7 pr => ?_))
        have ghc7 : Str t19 r19 hc7 := ghc6.only pr.1.1 (by decide)
        have oo := oo.trans (pr.1.1.mono (by decide))
        have jj := jj.ch pr.1 (by decide)
        have VR := pr_reduce ⟨V7, V8, q0⟩ pr.2
        refine hd_aload pkX19_patch rfl rfl (Int.natCast_nonneg _) ?_
        refine hd_ipush (z := 17) pkX19_patch rfl ?_
        refine hd_ipush (z := 18) pkX19_patch rfl ?_
        refine hd_iload pkX19_patch rfl rfl ?_
        refine hd_callV pkX19_patch rfl (q := (KX19_told, yX19_told, 19, 3, 0)) rfl rfl rfl (As := [(0, 17), (0, 18), (0, part)]) (rest := []) (c := 2514) rfl rfl (Nat.le_of_ble_eq_true rfl) (ghc7.cell 0 rfl).1 (ghc7.cell 0 rfl).2.1 (h_X19_told (by decide) (by decide) (by decide) (by decide) VR.1.1 VR.1.2.1 VR.2.1.1 VR.2.1.2.1 ghc7) (hd_bL (fun tv hc8 pt => ?_))
        have ghc8 : Str t19 r19 hc8 := ghc7.only pt.1.1 (by decide)
        have oo := oo.trans (pt.1.1.mono (by decide))
        have jj := jj.ch pt.1 (by decide)
        have tr : -1 ≤ tv ∧ tv < 1000000000000000000 := by
          by_cases q : part < 0
          · have e := pt.2.1 q
            have s3 := VR.1.sg
            omega
          · have e := pt.2.2 (by omega)
            omega
        refine hd_lret pkX19_patch rfl ?_
        subst eQ
        refine ⟨rfl, rfl, ?_, oo, jj, ghc8⟩
        show -2 ≤ tv ∧ tv < _
        omega
      · skip
        refine cut11 trivial
set_option maxRecDepth 20000 in
set_option maxHeartbeats 8000000 in
theorem h_X19_caseOf {h : MH} {k part cn : Int} (j19 : J19 h cn) (g : Str t19 r19 h) : MCal KX19_caseOf yX19_caseOf 0 0 [(2, ((2514 : Nat) : Int)), (0, k), (0, part)] h (mRL fun v h' => (-2 ≤ v ∧ v < 1000000000000000000) ∧ Only C19 h h' ∧ J19 h' cn ∧ Str t19 r19 h') := by
  refine MCal.ofMW (Or.inl rfl) ⟨cp_X19, rfl⟩ (Nat.le_of_ble_eq_true rfl) ?_
  generalize eQ : (mRL fun v h' => (-2 ≤ v ∧ v < 1000000000000000000) ∧ Only C19 h h' ∧ J19 h' cn ∧ Str t19 r19 h' : MO → MH → Prop) = Q
  change MW KX19_caseOf Q 0 0 (pcA pgX19_caseOf 0) [(0, (2, ((2514 : Nat) : Int))), (1, (0, k)), (2, (0, part))] [] h
  refine hd_locI (i := 1) rfl (fun rk => ?_)
  refine hd_locI (i := 2) rfl (fun rpart => ?_)
  have oo : Only C19 h h := Only.refl _ _
  have jj := j19
  obtain ⟨W, L, wl⟩ := j19.wl
  have cut9 : ∀ (_ : True), MW KX19_caseOf Q 0 0 (pcA pgX19_caseOf 9) [(0, (2, ((2514 : Nat) : Int))), (1, (0, k)), (2, (0, part))] [] h := by
    intro _
    refine hd_iload pkX19_caseOf rfl rfl ?_
    refine hd_callS pkX19_caseOf rfl (q := (KX19_none, yX19_none, 19, 1, 1)) rfl rfl rfl (As := [(0, part)]) (rest := []) rfl rfl (Nat.le_of_ble_eq_true rfl) rfl (h_X19_none g) (hd_bL (fun no hc1 po => ?_))
    obtain ⟨po, ehc1⟩ := po
    replace ehc1 := ehc1.symm
    subst ehc1
    refine hd_lret pkX19_caseOf rfl ?_
    subst eQ
    refine ⟨rfl, rfl, ?_, oo, jj, g⟩
    show -2 ≤ no ∧ no < _
    rw [po]
    split <;> decide
  refine hd_iload pkX19_caseOf rfl rfl ?_
  refine hd_if_lt pkX19_caseOf rfl (fun c2 => ?_) (fun c2 => ?_)
  · skip
    refine cut9 trivial
  · skip
    refine hd_iload pkX19_caseOf rfl rfl ?_
    refine hd_aload pkX19_caseOf rfl rfl (Int.natCast_nonneg _) ?_
    refine hd_getI pkX19_caseOf rfl (g.cell 0 rfl).1 (g.cell 0 rfl).2.1 (fun v3 ev3 rv3 => ?_)
    have c8 := j19.1.2.2.2.1.2.1
    have qv3 : ga h 2514 26 = v3 := ev3.symm
    subst qv3
    refine hd_ic_ge pkX19_caseOf rfl (fun c4 => ?_) (fun c4 => ?_)
    · skip
      refine cut9 trivial
    · skip
      refine hd_iload pkX19_caseOf rfl rfl ?_
      refine hd_ipush (z := (-1)) pkX19_caseOf rfl ?_
      refine hd_ic_ge pkX19_caseOf rfl (fun c5 => ?_) (fun c5 => ?_)
      · skip
        refine hd_aload pkX19_caseOf rfl rfl (Int.natCast_nonneg _) ?_
        refine hd_iload pkX19_caseOf rfl rfl ?_
        refine hd_callV pkX19_caseOf rfl (q := (KX19_work, yX19_work, 19, 1, 0)) rfl rfl rfl (As := [(0, k)]) (rest := []) (c := 2514) rfl rfl (Nat.le_of_ble_eq_true rfl) (g.cell 0 rfl).1 (g.cell 0 rfl).2.1 (h_X19_work ⟨by omega, by omega⟩ jj.1 wl g) (hd_bV (fun hc6 pw => ?_))
        have ghc6 : Str t19 r19 hc6 := g.only pw.1.1 (by decide)
        have oo := oo.trans (pw.1.1.mono (by decide))
        have jj := jj.ch pw.1 (by decide)
        obtain ⟨r, VR, bR⟩ := pw.2.2
        refine hd_aload pkX19_caseOf rfl rfl (Int.natCast_nonneg _) ?_
        refine hd_ipush (z := 26) pkX19_caseOf rfl ?_
        refine hd_ipush (z := 27) pkX19_caseOf rfl ?_
        refine hd_iload pkX19_caseOf rfl rfl ?_
        refine hd_callV pkX19_caseOf rfl (q := (KX19_told, yX19_told, 19, 3, 0)) rfl rfl rfl (As := [(0, 26), (0, 27), (0, part)]) (rest := []) (c := 2514) rfl rfl (Nat.le_of_ble_eq_true rfl) (ghc6.cell 0 rfl).1 (ghc6.cell 0 rfl).2.1 (h_X19_told (by decide) (by decide) (by decide) (by decide) VR.1.1 VR.1.2.1 VR.2.1.1 VR.2.1.2.1 ghc6) (hd_bL (fun tv hc7 pt => ?_))
        have ghc7 : Str t19 r19 hc7 := ghc6.only pt.1.1 (by decide)
        have oo := oo.trans (pt.1.1.mono (by decide))
        have jj := jj.ch pt.1 (by decide)
        have tr : -1 ≤ tv ∧ tv < 1000000000000000000 := by
          by_cases q : part < 0
          · have e := pt.2.1 q
            have s3 := VR.1.sg
            omega
          · have e := pt.2.2 (by omega)
            omega
        refine hd_lret pkX19_caseOf rfl ?_
        subst eQ
        refine ⟨rfl, rfl, ?_, oo, jj, ghc7⟩
        show -2 ≤ tv ∧ tv < _
        omega
      · skip
        refine cut9 trivial
set_option maxRecDepth 20000 in
set_option maxHeartbeats 8000000 in
theorem h_X19_by {h : MH} {k cn : Int} (j19 : J19 h cn) (g : Str t19 r19 h) : MCal KX19_by yX19_by 0 0 [(2, ((2514 : Nat) : Int)), (0, k)] h (mRI fun v h' => (-1 ≤ v ∧ v ≤ 7) ∧ Only C19 h h' ∧ J19 h' cn ∧ Str t19 r19 h') := by
  refine MCal.ofMW (Or.inl rfl) ⟨cp_X19, rfl⟩ (Nat.le_of_ble_eq_true rfl) ?_
  generalize eQ : (mRI fun v h' => (-1 ≤ v ∧ v ≤ 7) ∧ Only C19 h h' ∧ J19 h' cn ∧ Str t19 r19 h' : MO → MH → Prop) = Q
  change MW KX19_by Q 0 0 (pcA pgX19_by 0) [(0, (2, ((2514 : Nat) : Int))), (1, (0, k))] [] h
  refine hd_locI (i := 1) rfl (fun rk => ?_)
  have oo : Only C19 h h := Only.refl _ _
  have jj := j19
  obtain ⟨W, L, wl⟩ := j19.wl
  obtain ⟨cs9, e26⟩ : ∃ x : Int, ga h 2514 26 = x := ⟨_, rfl⟩
  have cs8 : 0 ≤ cs9 ∧ cs9 ≤ 8 := by rw [← e26]; exact j19.1.2.2.2.1.2.1
  refine hd_ipush (z := 0) pkX19_by rfl ?_
  refine hd_istore pkX19_by rfl rfl ?_
  change MW _ _ _ _ _ [(2, (0, 0)), (0, (2, ((2514 : Nat) : Int))), (1, (0, k))] _ _
  have lp2 : ∀ (N2 : Nat) (c : Int) (hc9 : MH), Str t19 r19 hc9 → (Only C19 h hc9) → (J19 hc9 cn) → (WL hc9 W L) → (ga hc9 2514 26 = cs9) → (0 ≤ c ∧ c ≤ cs9) → cs9 - c < (N2 : Int) → MW KX19_by Q 0 0 (pcA pgX19_by 2) [(0, (2, ((2514 : Nat) : Int))), (1, (0, k)), (2, (0, c))] [] hc9 := by
    intro N2
    induction N2 with
    | zero => intro c hc9 g2 oo jj wl e26 c0 hm2; exfalso; omega
    | succ N2 ih2 =>
      intro c hc9 g2 oo jj wl e26 c0 hm2
      refine hd_iload pkX19_by rfl rfl ?_
      refine hd_aload pkX19_by rfl rfl (Int.natCast_nonneg _) ?_
      refine hd_getI pkX19_by rfl (g2.cell 0 rfl).1 (g2.cell 0 rfl).2.1 (fun v1 ev1 rv1 => ?_)
      have qv1 : cs9 = v1 := by rw [ev1]; exact e26.symm
      subst qv1
      refine hd_ic_ge pkX19_by rfl (fun c2 => ?_) (fun c2 => ?_)
      · skip
        refine hd_ipush (z := (-1)) pkX19_by rfl ?_
        refine hd_iret pkX19_by rfl ?_
        subst eQ
        refine ⟨rfl, rfl, ?_, oo, jj, g2⟩
        show -1 ≤ ((-1) : Int) ∧ ((-1) : Int) ≤ 7
        omega
      · skip
        refine hd_aload pkX19_by rfl rfl (Int.natCast_nonneg _) ?_
        refine hd_iload pkX19_by rfl rfl ?_
        refine hd_callV pkX19_by rfl (q := (KX19_work, yX19_work, 19, 1, 0)) rfl rfl rfl (As := [(0, c)]) (rest := []) (c := 2514) rfl rfl (Nat.le_of_ble_eq_true rfl) (g2.cell 0 rfl).1 (g2.cell 0 rfl).2.1 (h_X19_work ⟨by omega, by omega⟩ jj.1 wl g2) (hd_bV (fun hc3 pw => ?_))
        have ghc3 : Str t19 r19 hc3 := g2.only pw.1.1 (by decide)
        have oo := oo.trans (pw.1.1.mono (by decide))
        have jj := jj.ch pw.1 (by decide)
        have wl := wl.ch pw.1 (by decide)
        have e26 := (pw.1.1.ga (d := 2514) (by decide) 26).trans e26
        obtain ⟨r, VC, bC⟩ := pw.2.2
        refine hd_aload pkX19_by rfl rfl (Int.natCast_nonneg _) ?_
        refine hd_ipush (z := 26) pkX19_by rfl ?_
        refine hd_ipush (z := 28) pkX19_by rfl ?_
        obtain ⟨V26, V27, q27⟩ := VC
        refine hd_callV pkX19_by rfl (q := (KX19_copy, yX19_copy, 19, 2, 0)) rfl rfl rfl (As := [(0, 26), (0, 28)]) (rest := []) (c := 2514) rfl rfl (Nat.le_of_ble_eq_true rfl) (ghc3.cell 0 rfl).1 (ghc3.cell 0 rfl).2.1 (h_X19_copy (by decide) (by decide) (by decide) (by decide) V26.1 ghc3) (hd_bV (fun hc4 pc => ?_))
        have ghc4 : Str t19 r19 hc4 := ghc3.only pc.1.1 (by decide)
        have oo := oo.trans (pc.1.1.mono (by decide))
        have jj := jj.ch pc.1 (by decide)
        have wl := wl.ch pc.1 (by decide)
        have e26 := (pc.1.1.ga (d := 2514) (by decide) 26).trans e26
        have V27 := V27.keep (by decide) pc.1 (by decide) (by decide)
        have V28 := nv_copy V26 pc
        refine hd_aload pkX19_by rfl rfl (Int.natCast_nonneg _) ?_
        refine hd_ipush (z := 27) pkX19_by rfl ?_
        refine hd_ipush (z := 29) pkX19_by rfl ?_
        refine hd_callV pkX19_by rfl (q := (KX19_copy, yX19_copy, 19, 2, 0)) rfl rfl rfl (As := [(0, 27), (0, 29)]) (rest := []) (c := 2514) rfl rfl (Nat.le_of_ble_eq_true rfl) (ghc4.cell 0 rfl).1 (ghc4.cell 0 rfl).2.1 (h_X19_copy (by decide) (by decide) (by decide) (by decide) V27.1 ghc4) (hd_bV (fun hc5 pc => ?_))
        have ghc5 : Str t19 r19 hc5 := ghc4.only pc.1.1 (by decide)
        have oo := oo.trans (pc.1.1.mono (by decide))
        have jj := jj.ch pc.1 (by decide)
        have wl := wl.ch pc.1 (by decide)
        have e26 := (pc.1.1.ga (d := 2514) (by decide) 26).trans e26
        have V28 := V28.keep (by decide) pc.1 (by decide) (by decide)
        have VO : Hr 140 2515 2516 hc5 28 29 r := ⟨V28, nv_copy V27 pc, q27⟩
        refine hd_ipush (z := 0) pkX19_by rfl ?_
        refine hd_istore pkX19_by rfl rfl ?_
        change MW _ _ _ _ _ [(3, (0, 0)), (0, (2, ((2514 : Nat) : Int))), (1, (0, k)), (2, (0, c))] _ _
        refine hd_ipush (z := 0) pkX19_by rfl ?_
        refine hd_istore pkX19_by rfl rfl ?_
        change MW _ _ _ _ _ [(4, (0, 0)), (3, (0, 0)), (0, (2, ((2514 : Nat) : Int))), (1, (0, k)), (2, (0, c))] _ _
        have lp21 : ∀ (N21 : Nat) (bf d : Int) (hd9 : MH), Str t19 r19 hd9 → (Only C19 h hd9) → (J19 hd9 cn) → (WL hd9 W L) → (ga hd9 2514 26 = cs9) → (0 ≤ d ∧ d ≤ cs9) → (0 ≤ bf ∧ bf ≤ d) → (Hr 140 2515 2516 hd9 28 29 r) → cs9 - d < (N21 : Int) → MW KX19_by Q 0 0 (pcA pgX19_by 21) [(0, (2, ((2514 : Nat) : Int))), (1, (0, k)), (2, (0, c)), (3, (0, bf)), (4, (0, d))] [] hd9 := by
          intro N21
          induction N21 with
          | zero => intro bf d hd9 g21 oo jj wl e26 d0 b0 VO hm21; exfalso; omega
          | succ N21 ih21 =>
            intro bf d hd9 g21 oo jj wl e26 d0 b0 VO hm21
            refine hd_iload pkX19_by rfl rfl ?_
            refine hd_aload pkX19_by rfl rfl (Int.natCast_nonneg _) ?_
            refine hd_getI pkX19_by rfl (g21.cell 0 rfl).1 (g21.cell 0 rfl).2.1 (fun v6 ev6 rv6 => ?_)
            have qv6 : cs9 = v6 := by rw [ev6]; exact e26.symm
            subst qv6
            refine hd_ic_ge pkX19_by rfl (fun c7 => ?_) (fun c7 => ?_)
            · skip
              refine hd_iload pkX19_by rfl rfl ?_
              refine hd_iload pkX19_by rfl rfl ?_
              refine hd_ic_ne pkX19_by rfl (fun c8 => ?_) (fun c8 => ?_)
              · skip
                refine hd_iinc (z := 1) pkX19_by rfl rfl (by omega) rfl ?_
                change MW _ _ _ _ _ [(2, (0, (c + 1))), (0, (2, ((2514 : Nat) : Int))), (1, (0, k)), (3, (0, bf)), (4, (0, d))] _ _
                refine hd_goto pkX19_by rfl ?_
                refine m_sub [(0, (2, ((2514 : Nat) : Int))), (1, (0, k)), (2, (0, (c + 1)))] (List.forall_mem_cons.mpr ⟨rfl, List.forall_mem_cons.mpr ⟨rfl, List.forall_mem_cons.mpr ⟨rfl, fun _ h => absurd h List.not_mem_nil⟩⟩⟩) ?_
                refine ih2  ((c + 1)) hd9 g21 ?_ ?_ ?_ ?_ ?_ ?_
                · exact oo
                · exact jj
                · exact wl
                · exact e26
                · omega
                · omega
              · skip
                refine hd_iload pkX19_by rfl rfl ?_
                refine hd_iret pkX19_by rfl ?_
                subst eQ
                refine ⟨rfl, rfl, ?_, oo, jj, g21⟩
                show -1 ≤ (c : Int) ∧ (c : Int) ≤ 7
                omega
            · skip
              refine hd_aload pkX19_by rfl rfl (Int.natCast_nonneg _) ?_
              refine hd_iload pkX19_by rfl rfl ?_
              refine hd_callV pkX19_by rfl (q := (KX19_work, yX19_work, 19, 1, 0)) rfl rfl rfl (As := [(0, d)]) (rest := []) (c := 2514) rfl rfl (Nat.le_of_ble_eq_true rfl) (g21.cell 0 rfl).1 (g21.cell 0 rfl).2.1 (h_X19_work ⟨by omega, by omega⟩ jj.1 wl g21) (hd_bV (fun hc9 pw => ?_))
              have ghc9 : Str t19 r19 hc9 := g21.only pw.1.1 (by decide)
              have oo := oo.trans (pw.1.1.mono (by decide))
              have jj := jj.ch pw.1 (by decide)
              have wl := wl.ch pw.1 (by decide)
              have e26 := (pw.1.1.ga (d := 2514) (by decide) 26).trans e26
              have VO := VO.keep (by decide) pw.1 (by decide) (by decide) (by decide) (by decide)
              obtain ⟨r2, VC, bD⟩ := pw.2.2
              refine hd_aload pkX19_by rfl rfl (Int.natCast_nonneg _) ?_
              refine hd_ipush (z := 26) pkX19_by rfl ?_
              refine hd_ipush (z := 29) pkX19_by rfl ?_
              refine hd_ipush (z := 19) pkX19_by rfl ?_
              refine hd_callV pkX19_by rfl (q := (KX19_product, yX19_product, 19, 3, 0)) rfl rfl rfl (As := [(0, 26), (0, 29), (0, 19)]) (rest := []) (c := 2514) rfl rfl (Nat.le_of_ble_eq_true rfl) (ghc9.cell 0 rfl).1 (ghc9.cell 0 rfl).2.1 (h_X19_product (by decide) (by decide) (by decide) (by decide) (by decide) (by decide) (by decide) (by decide) VC.1.1 VO.2.1.1 (nv_szs VC.1 VO.2.1 bD.1 bC.2 (by decide)) VC.1.sg VO.2.1.sg ghc9) (hd_bV (fun hc10 pp => ?_))
              have ghc10 : Str t19 r19 hc10 := ghc9.only pp.1.1 (by decide)
              have oo := oo.trans (pp.1.1.mono (by decide))
              have jj := jj.ch pp.1 (by decide)
              have wl := wl.ch pp.1 (by decide)
              have e26 := (pp.1.1.ga (d := 2514) (by decide) 26).trans e26
              have V19 := nv_product VC.1 VO.2.1 pp
              have VO := VO.keep (by decide) pp.1 (by decide) (by decide) (by decide) (by decide)
              have VC := VC.keep (by decide) pp.1 (by decide) (by decide) (by decide) (by decide)
              refine hd_aload pkX19_by rfl rfl (Int.natCast_nonneg _) ?_
              refine hd_ipush (z := 28) pkX19_by rfl ?_
              refine hd_ipush (z := 27) pkX19_by rfl ?_
              refine hd_ipush (z := 20) pkX19_by rfl ?_
              refine hd_callV pkX19_by rfl (q := (KX19_product, yX19_product, 19, 3, 0)) rfl rfl rfl (As := [(0, 28), (0, 27), (0, 20)]) (rest := []) (c := 2514) rfl rfl (Nat.le_of_ble_eq_true rfl) (ghc10.cell 0 rfl).1 (ghc10.cell 0 rfl).2.1 (h_X19_product (by decide) (by decide) (by decide) (by decide) (by decide) (by decide) (by decide) (by decide) VO.1.1 VC.2.1.1 (nv_szs VO.1 VC.2.1 bC.1 bD.2 (by decide)) VO.1.sg VC.2.1.sg ghc10) (hd_bV (fun hc11 pp => ?_))
              have ghc11 : Str t19 r19 hc11 := ghc10.only pp.1.1 (by decide)
              have oo := oo.trans (pp.1.1.mono (by decide))
              have jj := jj.ch pp.1 (by decide)
              have wl := wl.ch pp.1 (by decide)
              have e26 := (pp.1.1.ga (d := 2514) (by decide) 26).trans e26
              have V20 := nv_product VO.1 VC.2.1 pp
              have V19 := V19.keep (by decide) pp.1 (by decide) (by decide)
              have VO := VO.keep (by decide) pp.1 (by decide) (by decide) (by decide) (by decide)
              refine hd_aload pkX19_by rfl rfl (Int.natCast_nonneg _) ?_
              refine hd_ipush (z := 19) pkX19_by rfl ?_
              refine hd_ipush (z := 20) pkX19_by rfl ?_
              refine hd_callV pkX19_by rfl (q := (KX19_order, yX19_order, 19, 2, 0)) rfl rfl rfl (As := [(0, 19), (0, 20)]) (rest := []) (c := 2514) rfl rfl (Nat.le_of_ble_eq_true rfl) (ghc11.cell 0 rfl).1 (ghc11.cell 0 rfl).2.1 (h_X19_order (by decide) (by decide) (by decide) (by decide) V19 V20 ghc11) (hd_bI (fun od hc12 po => ?_))
              obtain ⟨po, ehc12⟩ := po
              replace ehc12 := ehc12.symm
              subst ehc12
              refine hd_istore pkX19_by rfl rfl ?_
              change MW _ _ _ _ _ [(5, (0, od)), (0, (2, ((2514 : Nat) : Int))), (1, (0, k)), (2, (0, c)), (3, (0, bf)), (4, (0, d))] _ _
              refine hd_iload pkX19_by rfl rfl ?_
              have cut54 : ∀ (ad : Int), (ad = 0 ∨ ad = 1) → MW KX19_by Q 0 0 (pcA pgX19_by 54) [(0, (2, ((2514 : Nat) : Int))), (1, (0, k)), (2, (0, c)), (3, (0, bf)), (4, (0, d)), (5, (0, od))] [(0, ad), (0, bf)] hc11 := by
                intro ad adv
                refine hd_iadd pkX19_by rfl (by omega) ?_
                refine hd_istore pkX19_by rfl rfl ?_
                change MW _ _ _ _ _ [(3, (0, (bf + ad))), (0, (2, ((2514 : Nat) : Int))), (1, (0, k)), (2, (0, c)), (4, (0, d)), (5, (0, od))] _ _
                refine hd_iinc (z := 1) pkX19_by rfl rfl (by omega) rfl ?_
                change MW _ _ _ _ _ [(4, (0, (d + 1))), (3, (0, (bf + ad))), (0, (2, ((2514 : Nat) : Int))), (1, (0, k)), (2, (0, c)), (5, (0, od))] _ _
                refine hd_goto pkX19_by rfl ?_
                refine m_sub [(0, (2, ((2514 : Nat) : Int))), (1, (0, k)), (2, (0, c)), (3, (0, (bf + ad))), (4, (0, (d + 1)))] (List.forall_mem_cons.mpr ⟨rfl, List.forall_mem_cons.mpr ⟨rfl, List.forall_mem_cons.mpr ⟨rfl, List.forall_mem_cons.mpr ⟨rfl, List.forall_mem_cons.mpr ⟨rfl, fun _ h => absurd h List.not_mem_nil⟩⟩⟩⟩⟩) ?_
                refine ih21  ((bf + ad)) ((d + 1)) hc11 ghc11 ?_ ?_ ?_ ?_ ?_ ?_ ?_ ?_
                · exact oo
                · exact jj
                · exact wl
                · exact e26
                · omega
                · omega
                · exact VO
                · omega
              refine hd_iload pkX19_by rfl rfl ?_
              refine hd_if_gt pkX19_by rfl (fun c13 => ?_) (fun c13 => ?_)
              · skip
                refine hd_ipush (z := 1) pkX19_by rfl ?_
                refine hd_goto pkX19_by rfl ?_
                refine m_sub [(0, (2, ((2514 : Nat) : Int))), (1, (0, k)), (2, (0, c)), (3, (0, bf)), (4, (0, d)), (5, (0, od))] (List.forall_mem_cons.mpr ⟨rfl, List.forall_mem_cons.mpr ⟨rfl, List.forall_mem_cons.mpr ⟨rfl, List.forall_mem_cons.mpr ⟨rfl, List.forall_mem_cons.mpr ⟨rfl, List.forall_mem_cons.mpr ⟨rfl, fun _ h => absurd h List.not_mem_nil⟩⟩⟩⟩⟩⟩) ?_
                refine cut54 (1) ?_
                · omega
              · skip
                refine hd_iload pkX19_by rfl rfl ?_
                refine hd_if_ne pkX19_by rfl (fun c14 => ?_) (fun c14 => ?_)
                · skip
                  refine hd_ipush (z := 0) pkX19_by rfl ?_
                  refine m_sub [(0, (2, ((2514 : Nat) : Int))), (1, (0, k)), (2, (0, c)), (3, (0, bf)), (4, (0, d)), (5, (0, od))] (List.forall_mem_cons.mpr ⟨rfl, List.forall_mem_cons.mpr ⟨rfl, List.forall_mem_cons.mpr ⟨rfl, List.forall_mem_cons.mpr ⟨rfl, List.forall_mem_cons.mpr ⟨rfl, List.forall_mem_cons.mpr ⟨rfl, fun _ h => absurd h List.not_mem_nil⟩⟩⟩⟩⟩⟩) ?_
                  refine cut54 (0) ?_
                  · omega
                · skip
                  refine hd_iload pkX19_by rfl rfl ?_
                  refine hd_iload pkX19_by rfl rfl ?_
                  refine hd_ic_ge pkX19_by rfl (fun c15 => ?_) (fun c15 => ?_)
                  · skip
                    refine hd_ipush (z := 0) pkX19_by rfl ?_
                    refine m_sub [(0, (2, ((2514 : Nat) : Int))), (1, (0, k)), (2, (0, c)), (3, (0, bf)), (4, (0, d)), (5, (0, od))] (List.forall_mem_cons.mpr ⟨rfl, List.forall_mem_cons.mpr ⟨rfl, List.forall_mem_cons.mpr ⟨rfl, List.forall_mem_cons.mpr ⟨rfl, List.forall_mem_cons.mpr ⟨rfl, List.forall_mem_cons.mpr ⟨rfl, fun _ h => absurd h List.not_mem_nil⟩⟩⟩⟩⟩⟩) ?_
                    refine cut54 (0) ?_
                    · omega
                  · skip
                    refine hd_ipush (z := 1) pkX19_by rfl ?_
                    refine hd_goto pkX19_by rfl ?_
                    refine m_sub [(0, (2, ((2514 : Nat) : Int))), (1, (0, k)), (2, (0, c)), (3, (0, bf)), (4, (0, d)), (5, (0, od))] (List.forall_mem_cons.mpr ⟨rfl, List.forall_mem_cons.mpr ⟨rfl, List.forall_mem_cons.mpr ⟨rfl, List.forall_mem_cons.mpr ⟨rfl, List.forall_mem_cons.mpr ⟨rfl, List.forall_mem_cons.mpr ⟨rfl, fun _ h => absurd h List.not_mem_nil⟩⟩⟩⟩⟩⟩) ?_
                    refine cut54 (1) ?_
                    · omega
        refine m_sub [(0, (2, ((2514 : Nat) : Int))), (1, (0, k)), (2, (0, c)), (3, (0, 0)), (4, (0, 0))] (List.forall_mem_cons.mpr ⟨rfl, List.forall_mem_cons.mpr ⟨rfl, List.forall_mem_cons.mpr ⟨rfl, List.forall_mem_cons.mpr ⟨rfl, List.forall_mem_cons.mpr ⟨rfl, fun _ h => absurd h List.not_mem_nil⟩⟩⟩⟩⟩) ?_
        refine lp21 ((cs9 - (0)) + 1).toNat (0) (0) hc5 ghc5 ?_ ?_ ?_ ?_ ?_ ?_ ?_ ?_
        · exact oo
        · exact jj
        · exact wl
        · exact e26
        · omega
        · omega
        · exact VO
        · omega
  refine m_sub [(0, (2, ((2514 : Nat) : Int))), (1, (0, k)), (2, (0, 0))] (List.forall_mem_cons.mpr ⟨rfl, List.forall_mem_cons.mpr ⟨rfl, List.forall_mem_cons.mpr ⟨rfl, fun _ h => absurd h List.not_mem_nil⟩⟩⟩) ?_
  refine lp2 ((cs9 - (0)) + 1).toNat (0) h g ?_ ?_ ?_ ?_ ?_ ?_
  · exact oo
  · exact jj
  · exact wl
  · exact e26
  · omega
  · omega
