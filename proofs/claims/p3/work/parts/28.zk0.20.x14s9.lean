set_option maxRecDepth 20000 in
set_option maxHeartbeats 8000000 in
theorem h_X14_row {h : MH} {w b p M : Int} (j14 : J14 h M) (g : Str t14 r14 h) : MCal KX14_row yX14_row 0 0 [(2, ((2495 : Nat) : Int)), (0, w), (0, b), (0, p)] h (mRI fun v h' => (-1 ≤ v ∧ v ≤ 7) ∧ Only C14 h h' ∧ J14 h' M ∧ Str t14 r14 h') := by
  refine MCal.ofMW (Or.inl rfl) ⟨cp_X14, rfl⟩ (Nat.le_of_ble_eq_true rfl) ?_
  generalize eQ : (mRI fun v h' => (-1 ≤ v ∧ v ≤ 7) ∧ Only C14 h h' ∧ J14 h' M ∧ Str t14 r14 h' : MO → MH → Prop) = Q
  change MW KX14_row Q 0 0 (pcA pgX14_row 0) [(0, (2, ((2495 : Nat) : Int))), (1, (0, w)), (2, (0, b)), (3, (0, p))] [] h
  refine hd_locI (i := 1) rfl (fun rw => ?_)
  refine hd_locI (i := 2) rfl (fun rb => ?_)
  refine hd_locI (i := 3) rfl (fun rp => ?_)
  have oo : Only C14 h h := Only.refl _ _
  have jj := j14
  have hM := j14.1.1.1
  refine hd_aload pkX14_row rfl rfl (Int.natCast_nonneg _) ?_
  refine hd_ipush (z := 0) pkX14_row rfl ?_
  refine hd_putI pkX14_row rfl (g.cell 0 rfl).1 (g.cell 0 rfl).2.1 (fun hh1 ehh1 => ?_)
  have ghh1 : Str t14 r14 hh1 := by rw [ehh1]; exact g.setF rfl
  have oo := oo.trans ((Only.wr ehh1).mono (by decide))
  have jj := jj.fld ehh1 (by decide) (by decide) (by decide)
  have cut38 : ∀ (gd : Int), (gd = 0 ∨ (gd = 1 ∧ ((w = 3 ∧ 0 ≤ b ∧ b ≤ M ∧ p = 0) ∨ (0 ≤ w ∧ w < 3 ∧ 0 ≤ b ∧ b < M ∧ 0 ≤ p ∧ p < 5)))) → MW KX14_row Q 0 0 (pcA pgX14_row 38) [(0, (2, ((2495 : Nat) : Int))), (1, (0, w)), (2, (0, b)), (3, (0, p))] [(0, gd)] hh1 := by
    intro gd gdv
    refine hd_istore pkX14_row rfl rfl ?_
    change MW _ _ _ _ _ [(4, (0, gd)), (0, (2, ((2495 : Nat) : Int))), (1, (0, w)), (2, (0, b)), (3, (0, p))] _ _
    refine hd_iload pkX14_row rfl rfl ?_
    refine hd_if_eq pkX14_row rfl (fun c2 => ?_) (fun c2 => ?_)
    · skip
      refine hd_ipush (z := (-1)) pkX14_row rfl ?_
      refine hd_iret pkX14_row rfl ?_
      subst eQ
      refine ⟨rfl, rfl, ?_, oo, jj, ghh1⟩
      show -1 ≤ ((-1) : Int) ∧ ((-1) : Int) ≤ 7
      omega
    · skip
      refine hd_aload pkX14_row rfl rfl (Int.natCast_nonneg _) ?_
      refine hd_getI pkX14_row rfl (ghh1.cell 0 rfl).1 (ghh1.cell 0 rfl).2.1 (fun v3 ev3 rv3 => ?_)
      obtain ⟨rn, qv3⟩ : ∃ rn : Int, rn = v3 := ⟨_, rfl⟩
      have er : ga hh1 2495 12 = rn := by rw [qv3, ev3]; rfl
      have r8 := jj.2.1.1
      rw [er] at r8
      subst qv3
      refine hd_ipush (z := 8) pkX14_row rfl ?_
      refine hd_ic_ne pkX14_row rfl (fun c4 => ?_) (fun c4 => ?_)
      · skip
        refine hd_aload pkX14_row rfl rfl (Int.natCast_nonneg _) ?_
        refine hd_getR (n := 2505) pkX14_row rfl (ghh1.cell 0 rfl).1 (ghh1.cell 0 rfl).2.1 (ghh1.ref 9 rfl) ?_
        refine hd_aload pkX14_row rfl rfl (Int.natCast_nonneg _) ?_
        refine hd_getI pkX14_row rfl (ghh1.cell 0 rfl).1 (ghh1.cell 0 rfl).2.1 (fun v5 ev5 rv5 => ?_)
        have qv5 : rn = v5 := by rw [ev5]; exact er.symm
        subst qv5
        refine hd_iload pkX14_row rfl rfl ?_
        refine hd_iast (n := 8) pkX14_row rfl (ghh1.cell 10 rfl) (by decide) (by omega) (by omega) (fun hh6 ehh6 => ?_)
        have ghh6 : Str t14 r14 hh6 := by rw [ehh6]; exact ghh1.setA rfl
        have oo := oo.trans ((Only.wr ehh6).mono (by decide))
        have jj := jj.new ehh6 er (by decide)
        have n2505 : ga hh6 2505 rn = w := (ga_wr ehh6 (by omega) (by omega)).trans (if_pos rfl)
        have er := ((Only.wr ehh6).ga (d := 2495) (by decide) _).trans er
        refine hd_aload pkX14_row rfl rfl (Int.natCast_nonneg _) ?_
        refine hd_getR (n := 2506) pkX14_row rfl (ghh6.cell 0 rfl).1 (ghh6.cell 0 rfl).2.1 (ghh6.ref 10 rfl) ?_
        refine hd_aload pkX14_row rfl rfl (Int.natCast_nonneg _) ?_
        refine hd_getI pkX14_row rfl (ghh6.cell 0 rfl).1 (ghh6.cell 0 rfl).2.1 (fun v7 ev7 rv7 => ?_)
        have qv7 : rn = v7 := by rw [ev7]; exact er.symm
        subst qv7
        refine hd_iload pkX14_row rfl rfl ?_
        refine hd_iast (n := 8) pkX14_row rfl (ghh6.cell 11 rfl) (by decide) (by omega) (by omega) (fun hh8 ehh8 => ?_)
        have ghh8 : Str t14 r14 hh8 := by rw [ehh8]; exact ghh6.setA rfl
        have oo := oo.trans ((Only.wr ehh8).mono (by decide))
        have jj := jj.new ehh8 er (by decide)
        have n2506 : ga hh8 2506 rn = b := (ga_wr ehh8 (by omega) (by omega)).trans (if_pos rfl)
        have n2505 := ((Only.wr ehh8).ga (d := 2505) (by decide) _).trans n2505
        have er := ((Only.wr ehh8).ga (d := 2495) (by decide) _).trans er
        refine hd_aload pkX14_row rfl rfl (Int.natCast_nonneg _) ?_
        refine hd_getR (n := 2507) pkX14_row rfl (ghh8.cell 0 rfl).1 (ghh8.cell 0 rfl).2.1 (ghh8.ref 11 rfl) ?_
        refine hd_aload pkX14_row rfl rfl (Int.natCast_nonneg _) ?_
        refine hd_getI pkX14_row rfl (ghh8.cell 0 rfl).1 (ghh8.cell 0 rfl).2.1 (fun v9 ev9 rv9 => ?_)
        have qv9 : rn = v9 := by rw [ev9]; exact er.symm
        subst qv9
        refine hd_iload pkX14_row rfl rfl ?_
        refine hd_iast (n := 8) pkX14_row rfl (ghh8.cell 12 rfl) (by decide) (by omega) (by omega) (fun hh10 ehh10 => ?_)
        have ghh10 : Str t14 r14 hh10 := by rw [ehh10]; exact ghh8.setA rfl
        have oo := oo.trans ((Only.wr ehh10).mono (by decide))
        have jj := jj.new ehh10 er (by decide)
        have n2507 : ga hh10 2507 rn = p := (ga_wr ehh10 (by omega) (by omega)).trans (if_pos rfl)
        have n2505 := ((Only.wr ehh10).ga (d := 2505) (by decide) _).trans n2505
        have n2506 := ((Only.wr ehh10).ga (d := 2506) (by decide) _).trans n2506
        have er := ((Only.wr ehh10).ga (d := 2495) (by decide) _).trans er
        refine hd_aload pkX14_row rfl rfl (Int.natCast_nonneg _) ?_
        refine hd_dup pkX14_row rfl rfl ?_
        refine hd_getI pkX14_row rfl (ghh10.cell 0 rfl).1 (ghh10.cell 0 rfl).2.1 (fun v11 ev11 rv11 => ?_)
        have qv11 : rn = v11 := by rw [ev11]; exact er.symm
        subst qv11
        refine hd_ipush (z := 1) pkX14_row rfl ?_
        refine hd_iadd pkX14_row rfl (by omega) ?_
        refine hd_putI pkX14_row rfl (ghh10.cell 0 rfl).1 (ghh10.cell 0 rfl).2.1 (fun hh12 ehh12 => ?_)
        have ghh12 : Str t14 r14 hh12 := by rw [ehh12]; exact ghh10.setF rfl
        have oo := oo.trans ((Only.wr ehh12).mono (by decide))
        have jj := jj.add ehh12 er (by omega) (by rw [n2505, n2506, n2507]; omega)
        have er : ga hh12 2495 12 = rn + 1 := (ga_wr ehh12 (by decide) (by decide)).trans (if_pos rfl)
        refine hd_aload pkX14_row rfl rfl (Int.natCast_nonneg _) ?_
        refine hd_getI pkX14_row rfl (ghh12.cell 0 rfl).1 (ghh12.cell 0 rfl).2.1 (fun v13 ev13 rv13 => ?_)
        have qv13 : (rn + 1) = v13 := by rw [ev13]; exact er.symm
        subst qv13
        refine hd_ipush (z := 1) pkX14_row rfl ?_
        refine hd_isub pkX14_row rfl (by omega) ?_
        refine hd_iret pkX14_row rfl ?_
        subst eQ
        refine ⟨rfl, rfl, ?_, oo, jj, ghh12⟩
        show -1 ≤ (((rn + 1) - 1) : Int) ∧ (((rn + 1) - 1) : Int) ≤ 7
        omega
      · skip
        refine hd_ipush (z := (-1)) pkX14_row rfl ?_
        refine hd_iret pkX14_row rfl ?_
        subst eQ
        refine ⟨rfl, rfl, ?_, oo, jj, ghh1⟩
        show -1 ≤ ((-1) : Int) ∧ ((-1) : Int) ≤ 7
        omega
  refine hd_iload pkX14_row rfl rfl ?_
  refine hd_ipush (z := 3) pkX14_row rfl ?_
  refine hd_ic_ne pkX14_row rfl (fun c14 => ?_) (fun c14 => ?_)
  · skip
    refine hd_iload pkX14_row rfl rfl ?_
    refine hd_if_lt pkX14_row rfl (fun c15 => ?_) (fun c15 => ?_)
    · skip
      refine hd_ipush (z := 0) pkX14_row rfl ?_
      refine cut38 (0) ?_
      · omega
    · skip
      refine hd_iload pkX14_row rfl rfl ?_
      refine hd_ipush (z := 3) pkX14_row rfl ?_
      refine hd_ic_ge pkX14_row rfl (fun c16 => ?_) (fun c16 => ?_)
      · skip
        refine hd_ipush (z := 0) pkX14_row rfl ?_
        refine cut38 (0) ?_
        · omega
      · skip
        refine hd_aload pkX14_row rfl rfl (Int.natCast_nonneg _) ?_
        refine hd_iload pkX14_row rfl rfl ?_
        refine hd_callV pkX14_row rfl (q := (KX14_noBeam, yX14_noBeam, 14, 1, 0)) rfl rfl rfl (As := [(0, b)]) (rest := []) (c := 2495) rfl rfl (Nat.le_of_ble_eq_true rfl) (ghh1.cell 0 rfl).1 (ghh1.cell 0 rfl).2.1 (h_X14_noBeam jj.1.1.2.1 ghh1) (hd_bI (fun nb hc17 pb => ?_))
        obtain ⟨pb, ehc17⟩ := pb
        replace ehc17 := ehc17.symm
        subst ehc17
        refine hd_if_ne pkX14_row rfl (fun c18 => ?_) (fun c18 => ?_)
        · skip
          refine hd_ipush (z := 0) pkX14_row rfl ?_
          refine cut38 (0) ?_
          · omega
        · skip
          refine hd_iload pkX14_row rfl rfl ?_
          refine hd_if_lt pkX14_row rfl (fun c19 => ?_) (fun c19 => ?_)
          · skip
            refine hd_ipush (z := 0) pkX14_row rfl ?_
            refine cut38 (0) ?_
            · omega
          · skip
            refine hd_iload pkX14_row rfl rfl ?_
            refine hd_ipush (z := 5) pkX14_row rfl ?_
            refine hd_ic_ge pkX14_row rfl (fun c20 => ?_) (fun c20 => ?_)
            · skip
              refine hd_ipush (z := 0) pkX14_row rfl ?_
              refine cut38 (0) ?_
              · omega
            · skip
              refine hd_ipush (z := 1) pkX14_row rfl ?_
              refine hd_goto pkX14_row rfl ?_
              refine cut38 (1) ?_
              · omega
  · skip
    refine hd_aload pkX14_row rfl rfl (Int.natCast_nonneg _) ?_
    refine hd_iload pkX14_row rfl rfl ?_
    refine hd_callV pkX14_row rfl (q := (KX14_noNode, yX14_noNode, 14, 1, 0)) rfl rfl rfl (As := [(0, b)]) (rest := []) (c := 2495) rfl rfl (Nat.le_of_ble_eq_true rfl) (ghh1.cell 0 rfl).1 (ghh1.cell 0 rfl).2.1 (h_X14_noNode jj.1.1.2.1 ghh1) (hd_bI (fun nb hc21 pb => ?_))
    obtain ⟨pb, ehc21⟩ := pb
    replace ehc21 := ehc21.symm
    subst ehc21
    refine hd_if_ne pkX14_row rfl (fun c22 => ?_) (fun c22 => ?_)
    · skip
      refine hd_ipush (z := 0) pkX14_row rfl ?_
      refine hd_goto pkX14_row rfl ?_
      refine cut38 (0) ?_
      · omega
    · skip
      refine hd_iload pkX14_row rfl rfl ?_
      refine hd_if_ne pkX14_row rfl (fun c23 => ?_) (fun c23 => ?_)
      · skip
        refine hd_ipush (z := 0) pkX14_row rfl ?_
        refine hd_goto pkX14_row rfl ?_
        refine cut38 (0) ?_
        · omega
      · skip
        refine hd_aload pkX14_row rfl rfl (Int.natCast_nonneg _) ?_
        refine hd_getR (n := 2500) pkX14_row rfl (ghh1.cell 0 rfl).1 (ghh1.cell 0 rfl).2.1 (ghh1.ref 4 rfl) ?_
        refine hd_iload pkX14_row rfl rfl ?_
        refine hd_zald (n := 4) pkX14_row rfl (ghh1.cell 5 rfl) (by omega) (by omega) (fun v24 ev24 rv24 => ?_)
        refine hd_if_eq pkX14_row rfl (fun c25 => ?_) (fun c25 => ?_)
        · skip
          refine hd_ipush (z := 0) pkX14_row rfl ?_
          refine hd_goto pkX14_row rfl ?_
          refine cut38 (0) ?_
          · omega
        · skip
          refine hd_ipush (z := 1) pkX14_row rfl ?_
          refine hd_goto pkX14_row rfl ?_
          refine cut38 (1) ?_
          · omega
set_option maxRecDepth 20000 in
set_option maxHeartbeats 8000000 in
theorem h_X14_move {h : MH} {n a b part M : Int} (j4 : J4 h M) (g : Str t14 r14 h) : MCal KX14_move yX14_move 0 0 [(2, ((2495 : Nat) : Int)), (0, n), (1, a), (1, b), (0, part)] h (mRL fun v h' => Rk h h' M) := by
  refine MCal.ofMW (Or.inl rfl) ⟨cp_X14, rfl⟩ (Nat.le_of_ble_eq_true rfl) ?_
  generalize eQ : (mRL fun v h' => Rk h h' M : MO → MH → Prop) = Q
  change MW KX14_move Q 0 0 (pcA pgX14_move 0) [(0, (2, ((2495 : Nat) : Int))), (1, (0, n)), (2, (1, a)), (4, (1, b)), (6, (0, part))] [] h
  refine hd_locI (i := 1) rfl (fun rn => ?_)
  refine hd_locL (i := 2) rfl (fun ra => ?_)
  refine hd_locL (i := 4) rfl (fun rb => ?_)
  refine hd_locI (i := 6) rfl (fun rpart => ?_)
  have hM := j4.1.1
  refine hd_aload pkX14_move rfl rfl (Int.natCast_nonneg _) ?_
  refine hd_ipush (z := 0) pkX14_move rfl ?_
  refine hd_putI pkX14_move rfl (g.cell 0 rfl).1 (g.cell 0 rfl).2.1 (fun hh1 ehh1 => ?_)
  have ghh1 : Str t14 r14 hh1 := by rw [ehh1]; exact g.setF rfl
  have rk := Rk.fault j4 ehh1
  have cut29 : ∀ (_ : True) (hj29 : MH), Str t14 r14 hj29 → (Rk h hj29 M) → MW KX14_move Q 0 0 (pcA pgX14_move 29) [(0, (2, ((2495 : Nat) : Int))), (1, (0, n)), (2, (1, a)), (4, (1, b)), (6, (0, part))] [] hj29 := by
    intro _ hj29 gc29 rk
    refine hd_iload pkX14_move rfl rfl ?_
    refine hd_callS pkX14_move rfl (q := (KX14_none, yX14_none, 14, 1, 1)) rfl rfl rfl (As := [(0, part)]) (rest := []) rfl rfl (Nat.le_of_ble_eq_true rfl) rfl (h_X14_none gc29) (hd_bL (fun no hc2 po => ?_))
    obtain ⟨po, ehc2⟩ := po
    replace ehc2 := ehc2.symm
    subst ehc2
    refine hd_lret pkX14_move rfl ?_
    subst eQ
    exact ⟨rfl, rfl, rk⟩
  refine hd_aload pkX14_move rfl rfl (Int.natCast_nonneg _) ?_
  refine hd_iload pkX14_move rfl rfl ?_
  refine hd_callV pkX14_move rfl (q := (KX14_noNode, yX14_noNode, 14, 1, 0)) rfl rfl rfl (As := [(0, n)]) (rest := []) (c := 2495) rfl rfl (Nat.le_of_ble_eq_true rfl) (ghh1.cell 0 rfl).1 (ghh1.cell 0 rfl).2.1 (h_X14_noNode rk.j.1.2.1 ghh1) (hd_bI (fun nb hc3 pb => ?_))
  obtain ⟨pb, ehc3⟩ := pb
  replace ehc3 := ehc3.symm
  subst ehc3
  refine hd_if_ne pkX14_move rfl (fun c4 => ?_) (fun c4 => ?_)
  · skip
    refine cut29 trivial hh1 ghh1 ?_
    · exact rk
  · skip
    refine hd_lload pkX14_move rfl rfl ?_
    refine hd_lpush (z := (-1000)) pkX14_move rfl ?_
    refine hd_lc_lt pkX14_move rfl (fun c5 => ?_) (fun c5 => ?_)
    · skip
      refine cut29 trivial hh1 ghh1 ?_
      · exact rk
    · skip
      refine hd_lload pkX14_move rfl rfl ?_
      refine hd_lpush (z := 1000) pkX14_move rfl ?_
      refine hd_lc_gt pkX14_move rfl (fun c6 => ?_) (fun c6 => ?_)
      · skip
        refine cut29 trivial hh1 ghh1 ?_
        · exact rk
      · skip
        refine hd_lload pkX14_move rfl rfl ?_
        refine hd_lpush (z := 1) pkX14_move rfl ?_
        refine hd_lc_lt pkX14_move rfl (fun c7 => ?_) (fun c7 => ?_)
        · skip
          refine cut29 trivial hh1 ghh1 ?_
          · exact rk
        · skip
          refine hd_lload pkX14_move rfl rfl ?_
          refine hd_lpush (z := 1000) pkX14_move rfl ?_
          refine hd_lc_gt pkX14_move rfl (fun c8 => ?_) (fun c8 => ?_)
          · skip
            refine cut29 trivial hh1 ghh1 ?_
            · exact rk
          · skip
            refine hd_iload pkX14_move rfl rfl ?_
            refine hd_ipush (z := (-1)) pkX14_move rfl ?_
            refine hd_ic_lt pkX14_move rfl (fun c9 => ?_) (fun c9 => ?_)
            · skip
              refine cut29 trivial hh1 ghh1 ?_
              · exact rk
            · skip
              refine hd_aload pkX14_move rfl rfl (Int.natCast_nonneg _) ?_
              refine hd_callV pkX14_move rfl (q := (KX14_isFirm, yX14_isFirm, 14, 0, 0)) rfl rfl rfl (As := []) (rest := []) (c := 2495) rfl rfl (Nat.le_of_ble_eq_true rfl) (ghh1.cell 0 rfl).1 (ghh1.cell 0 rfl).2.1 (h_X14_isFirm rk.j ghh1) (hd_bI (fun fw hc10 pf => ?_))
              have ghc10 : Str t14 r14 hc10 := ghh1.rk pf.2.1
              have rk := rk.trans pf.2.1
              have n16 := pf.2.2.1
              have sv := pf.2.2.2.1
              have fv := pf.1
              have fe := pf.2.2.2.2
              refine hd_if_ne pkX14_move rfl (fun c11 => ?_) (fun c11 => ?_)
              · skip
                refine hd_aload pkX14_move rfl rfl (Int.natCast_nonneg _) ?_
                refine hd_ipush (z := 681) pkX14_move rfl ?_
                refine hd_lpush (z := 0) pkX14_move rfl ?_
                obtain ⟨T, lk, tl9⟩ := sv.lf rk.j.1.1 (fe (by omega))
                refine hd_callV pkX14_move rfl (q := (KX14_small, yX14_small, 14, 2, 0)) rfl rfl rfl (As := [(0, 681), (1, 0)]) (rest := []) (c := 2495) rfl rfl (Nat.le_of_ble_eq_true rfl) (ghc10.cell 0 rfl).1 (ghc10.cell 0 rfl).2.1 (h_X14_small (by decide) (by decide) (by decide) ghc10) (hd_bV (fun hc12 ps => ?_))
                have ghc12 : Str t14 r14 hc12 := ghc10.only ps.1.1 (by decide)
                have rk := rk.trans (Rk.ch rk.j ps.1 (by decide))
                have lk := lk.ch ps.1 (by decide)
                have tl9 := fun (j : Int) (a : 0 ≤ j) (b : j < 4 * M) => (by rw [ps.1.1.ga (d := 2508) (by decide)]; exact tl9 j a b : 0 ≤ ga hc12 2508 j ∧ ga hc12 2508 j < 4 * M)
                have nA := nv_small ps
                refine hd_aload pkX14_move rfl rfl (Int.natCast_nonneg _) ?_
                refine hd_ipush (z := 682) pkX14_move rfl ?_
                refine hd_lpush (z := 1) pkX14_move rfl ?_
                refine hd_callV pkX14_move rfl (q := (KX14_small, yX14_small, 14, 2, 0)) rfl rfl rfl (As := [(0, 682), (1, 1)]) (rest := []) (c := 2495) rfl rfl (Nat.le_of_ble_eq_true rfl) (ghc12.cell 0 rfl).1 (ghc12.cell 0 rfl).2.1 (h_X14_small (by decide) (by decide) (by decide) ghc12) (hd_bV (fun hc13 ps => ?_))
                have ghc13 : Str t14 r14 hc13 := ghc12.only ps.1.1 (by decide)
                have rk := rk.trans (Rk.ch rk.j ps.1 (by decide))
                have lk := lk.ch ps.1 (by decide)
                have tl9 := fun (j : Int) (a : 0 ≤ j) (b : j < 4 * M) => (by rw [ps.1.1.ga (d := 2508) (by decide)]; exact tl9 j a b : 0 ≤ ga hc13 2508 j ∧ ga hc13 2508 j < 4 * M)
                have nA := nA.keep (by decide) ps.1 (by decide) (nm1 (by decide))
                have VS : Hr 70 2496 2497 hc13 681 682 0 := ⟨nA, nv_small ps, by decide⟩
                refine hd_aload pkX14_move rfl rfl (Int.natCast_nonneg _) ?_
                have cut48 : ∀ (kk : Int), (0 ≤ kk ∧ kk < M) → MW KX14_move Q 0 0 (pcA pgX14_move 48) [(0, (2, ((2495 : Nat) : Int))), (1, (0, n)), (2, (1, a)), (4, (1, b)), (6, (0, part))] [(0, kk), (2, ((2495 : Nat) : Int))] hc13 := by
                  intro kk kkv
                  refine hd_ipush (z := 0) pkX14_move rfl ?_
                  have cut54 : ∀ (xx : Int), (xx = 0 ∨ xx = 4) → MW KX14_move Q 0 0 (pcA pgX14_move 54) [(0, (2, ((2495 : Nat) : Int))), (1, (0, n)), (2, (1, a)), (4, (1, b)), (6, (0, part))] [(0, xx), (0, 0), (0, kk), (2, ((2495 : Nat) : Int))] hc13 := by
                    intro xx xxv
                    refine hd_ipush (z := 27) pkX14_move rfl ?_
                    refine hd_ipush (z := 1) pkX14_move rfl ?_
                    have b9 := rk.j.1.2.2.1 kk (by omega) (by omega)
                    have bL := b9.1
                    have bS := b9.2
                    have ht9 : ∀ u : Int, 0 ≤ u → u < 4 → 0 ≤ ga hc13 2508 (4 * kk + u) ∧ ga hc13 2508 (4 * kk + u) < 4 * M := fun u u0 u1 => tl9 _ (by omega) (by omega)
                    have hz := hs_naive (T := T) (tl := ga hc13 2508) (k := kk) (w := 0) (x := xx) (t := 1) (l := ga hc13 2498 kk) (e := ga hc13 2499 kk) (col := 27) (n := 4 * M) ⟨by omega, by omega⟩ bL bS lk.2.1 ⟨by decide, by decide⟩ ht9
                    refine hd_callV pkX14_move rfl (q := (KX14_has, yX14_has, 14, 5, 0)) rfl rfl rfl (As := [(0, kk), (0, 0), (0, xx), (0, 27), (0, 1)]) (rest := []) (c := 2495) rfl rfl (Nat.le_of_ble_eq_true rfl) (ghc13.cell 0 rfl).1 (ghc13.cell 0 rfl).2.1 (h_X14_has (m := 43) (m2 := 12) (by omega) (by omega) bL bS ⟨by omega, by omega⟩ ⟨by decide, by decide⟩ ⟨by decide, by decide⟩ (Or.inl rfl) lk.1 VS (fun u u0 u1 => ⟨(ht9 u u0 u1).1, by have := (ht9 u u0 u1).2; omega⟩) (fun u u0 u1 => lk.2.1 _ _ (ht9 u u0 u1).1 (ht9 u u0 u1).2 (by decide) (by decide)) (fun n h4 h5 => (hz n h4).up (by have : n ≠ 4 := fun q => (h5 q) rfl; omega)) (by decide) ghc13) (hd_bV (fun hc14 ph => ?_))
                    have ghc14 : Str t14 r14 hc14 := ghc13.only ph.1.1 (by decide)
                    have rk := rk.trans (Rk.ch rk.j ph.1 (by decide))
                    have VS := ph.2.2
                    have bV := hz 4 (Nat.le_refl 4)
                    have o9 : hsO kk 0 xx 1 (ga hc13 2498 kk) (ga hc13 2499 kk) 27 = 0 := if_neg (fun q => q.1 rfl)
                    rw [o9, Rat.add_zero] at VS
                    refine hd_aload pkX14_move rfl rfl (Int.natCast_nonneg _) ?_
                    refine hd_ipush (z := 679) pkX14_move rfl ?_
                    refine hd_ipush (z := 680) pkX14_move rfl ?_
                    refine hd_lload pkX14_move rfl rfl ?_
                    refine hd_lload pkX14_move rfl rfl ?_
                    refine hd_callV pkX14_move rfl (q := (KX14_fraction, yX14_fraction, 14, 4, 0)) rfl rfl rfl (As := [(0, 679), (0, 680), (1, a), (1, b)]) (rest := []) (c := 2495) rfl rfl (Nat.le_of_ble_eq_true rfl) (ghc14.cell 0 rfl).1 (ghc14.cell 0 rfl).2.1 (h_X14_fraction (by decide) (by decide) (by decide) (by decide) (by decide) (by decide) (by decide) (by omega) (by omega) ghc14) (hd_bV (fun hc15 pf => ?_))
                    have ghc15 : Str t14 r14 hc15 := ghc14.only pf.1.1 (by decide)
                    have rk := rk.trans (Rk.ch rk.j pf.1 (by decide))
                    have VS := VS.keep (by decide) pf.1 (by decide) (by decide) (by decide) (by decide)
                    have VM := pf.2
                    have bM := divInt_sz1 (p := a) (q := b) ⟨by omega, by omega⟩ ⟨by omega, by omega⟩
                    refine hd_aload pkX14_move rfl rfl (Int.natCast_nonneg _) ?_
                    refine hd_ipush (z := 681) pkX14_move rfl ?_
                    refine hd_ipush (z := 682) pkX14_move rfl ?_
                    refine hd_ipush (z := 679) pkX14_move rfl ?_
                    refine hd_ipush (z := 680) pkX14_move rfl ?_
                    refine hd_callV pkX14_move rfl (q := (KX14_timesFraction, yX14_timesFraction, 14, 4, 0)) rfl rfl rfl (As := [(0, 681), (0, 682), (0, 679), (0, 680)]) (rest := []) (c := 2495) rfl rfl (Nat.le_of_ble_eq_true rfl) (ghc15.cell 0 rfl).1 (ghc15.cell 0 rfl).2.1 (h_X14_timesFraction (m1 := 57) (m2 := 1) (by decide) (by decide) (by decide) (by decide) (by decide) (by decide) (by decide) (by decide) (by decide) (by decide) (by decide) (by decide) (by decide) VS VM bV.1 bV.2 bM.1 bM.2 (by decide) ghc15) (hd_bV (fun hc16 pt => ?_))
                    have ghc16 : Str t14 r14 hc16 := ghc15.only pt.1.1 (by decide)
                    have rk := rk.trans (Rk.ch rk.j pt.1 (by decide))
                    have VS := pt.2
                    refine hd_aload pkX14_move rfl rfl (Int.natCast_nonneg _) ?_
                    refine hd_ipush (z := 681) pkX14_move rfl ?_
                    refine hd_ipush (z := 682) pkX14_move rfl ?_
                    refine hd_iload pkX14_move rfl rfl ?_
                    refine hd_callV pkX14_move rfl (q := (KX14_told, yX14_told, 14, 3, 0)) rfl rfl rfl (As := [(0, 681), (0, 682), (0, part)]) (rest := []) (c := 2495) rfl rfl (Nat.le_of_ble_eq_true rfl) (ghc16.cell 0 rfl).1 (ghc16.cell 0 rfl).2.1 (h_X14_told (by decide) (by decide) (by decide) (by decide) VS.1.1 VS.1.2.1 VS.2.1.1 VS.2.1.2.1 ghc16) (hd_bL (fun tv hc17 pt => ?_))
                    have rk := rk.trans (Rk.ch rk.j pt.1 (by decide))
                    refine hd_lret pkX14_move rfl ?_
                    subst eQ
                    exact ⟨rfl, rfl, rk⟩
                  refine hd_iload pkX14_move rfl rfl ?_
                  refine hd_if_le pkX14_move rfl (fun c18 => ?_) (fun c18 => ?_)
                  · skip
                    refine hd_ipush (z := 0) pkX14_move rfl ?_
                    refine cut54 (0) ?_
                    · omega
                  · skip
                    refine hd_ipush (z := 4) pkX14_move rfl ?_
                    refine hd_goto pkX14_move rfl ?_
                    refine cut54 (4) ?_
                    · omega
                refine hd_iload pkX14_move rfl rfl ?_
                refine hd_if_le pkX14_move rfl (fun c19 => ?_) (fun c19 => ?_)
                · skip
                  refine hd_ipush (z := 0) pkX14_move rfl ?_
                  refine cut48 (0) ?_
                  · omega
                · skip
                  refine hd_iload pkX14_move rfl rfl ?_
                  refine hd_ipush (z := 1) pkX14_move rfl ?_
                  refine hd_isub pkX14_move rfl (by omega) ?_
                  refine hd_goto pkX14_move rfl ?_
                  refine cut48 ((n - 1)) ?_
                  · omega
              · skip
                refine cut29 trivial hc10 ghc10 ?_
                · exact rk
