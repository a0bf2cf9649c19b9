set_option maxRecDepth 20000 in
set_option maxHeartbeats 8000000 in
theorem h_X14_read {h : MH} {M : Int} (j14 : J14 h M) (g : Str t14 r14 h) : MCal KX14_read yX14_read 0 0 [(2, ((2495 : Nat) : Int))] h (mRI fun v h' => (-100 ≤ v ∧ v ≤ 3) ∧ Only C14 h h' ∧ Str t14 r14 h' ∧ ∃ M2 : Int, J14 h' M2) := by
  refine MCal.ofMW (Or.inl rfl) ⟨cp_X14, rfl⟩ (Nat.le_of_ble_eq_true rfl) ?_
  generalize eQ : (mRI fun v h' => (-100 ≤ v ∧ v ≤ 3) ∧ Only C14 h h' ∧ Str t14 r14 h' ∧ ∃ M2 : Int, J14 h' M2 : MO → MH → Prop) = Q
  change MW KX14_read Q 0 0 (pcA pgX14_read 0) [(0, (2, ((2495 : Nat) : Int)))] [] h
  have oo : Only C14 h h := Only.refl _ _
  have jj := j14
  have hM := j14.1.1.1
  refine hd_aload pkX14_read rfl rfl (Int.natCast_nonneg _) ?_
  refine hd_ipush (z := 0) pkX14_read rfl ?_
  refine hd_putI pkX14_read rfl (g.cell 0 rfl).1 (g.cell 0 rfl).2.1 (fun hh1 ehh1 => ?_)
  have ghh1 : Str t14 r14 hh1 := by rw [ehh1]; exact g.setF rfl
  have oo := oo.trans ((Only.wr ehh1).mono (by decide))
  have jj := jj.fld ehh1 (by decide) (by decide) (by decide)
  refine hd_aload pkX14_read rfl rfl (Int.natCast_nonneg _) ?_
  refine hd_ipush (z := 0) pkX14_read rfl ?_
  refine hd_putI pkX14_read rfl (ghh1.cell 0 rfl).1 (ghh1.cell 0 rfl).2.1 (fun hh2 ehh2 => ?_)
  have ghh2 : Str t14 r14 hh2 := by rw [ehh2]; exact ghh1.setF rfl
  have oo := oo.trans ((Only.wr ehh2).mono (by decide))
  have jj := jj.fld ehh2 (by decide) (by decide) (by decide)
  have az : 0 ≤ ga hh2 2495 20 ∧ ga hh2 2495 20 ≤ ga hh2 2495 10 := by
    have w : ga hh2 2495 20 = 0 := (ga_wr ehh2 (by decide) (by decide)).trans (if_pos rfl)
    have z := jj.2.2.1
    omega
  refine hd_ipush (z := 0) pkX14_read rfl ?_
  refine hd_istore pkX14_read rfl rfl ?_
  change MW _ _ _ _ _ [(1, (0, 0)), (0, (2, ((2495 : Nat) : Int)))] _ _
  refine hd_aload pkX14_read rfl rfl (Int.natCast_nonneg _) ?_
  refine hd_ipush (z := 0) pkX14_read rfl ?_
  refine hd_callV pkX14_read rfl (q := (KX14_readNode, yX14_readNode, 14, 1, 0)) rfl rfl rfl (As := [(0, 0)]) (rest := []) (c := 2495) rfl rfl (Nat.le_of_ble_eq_true rfl) (ghh2.cell 0 rfl).1 (ghh2.cell 0 rfl).2.1 (h_X14_readNode ⟨by decide, by decide⟩ az jj.2.2.2 ghh2) (hd_bI (fun n0 hc3 pq => ?_))
  have ghc3 : Str t14 r14 hc3 := pq.2.2.2
  have oo := oo.trans (pq.2.1.1.mono (by decide))
  have jj := pq.2.1.j14 jj
  have az := pq.2.1.2.2
  have n0b := pq.1
  have cut37 : ∀ (bm gd : Int) (hj37 : MH), Str t14 r14 hj37 → (Only C14 h hj37) → (J14 hj37 M) → (0 ≤ ga hj37 2495 20 ∧ ga hj37 2495 20 ≤ ga hj37 2495 10) → (0 ≤ bm ∧ bm ≤ 3) → (gd = 0 ∨ gd = 1) → (∀ j : Int, 0 ≤ j → j < bm → (1 ≤ ga hj37 2509 j ∧ ga hj37 2509 j ≤ 12) ∧ (1 ≤ ga hj37 2510 j ∧ ga hj37 2510 j ≤ 12)) → (gd = 1 → 1 ≤ bm) → MW KX14_read Q 0 0 (pcA pgX14_read 37) [(0, (2, ((2495 : Nat) : Int))), (1, (0, bm)), (2, (0, gd))] [] hj37 := by
    intro bm gd hj37 gc37 oo jj az bmb gdb bl gb
    have cut47 : ∀ (g2 : Int), ((g2 = 1 ∧ gd = 1) ∨ g2 = 0) → MW KX14_read Q 0 0 (pcA pgX14_read 47) [(0, (2, ((2495 : Nat) : Int))), (1, (0, bm)), (2, (0, gd))] [(0, g2)] hj37 := by
      intro g2 g2v
      refine hd_istore pkX14_read rfl rfl ?_
      change MW _ _ _ _ _ [(2, (0, g2)), (0, (2, ((2495 : Nat) : Int))), (1, (0, bm))] _ _
      refine hd_aload pkX14_read rfl rfl (Int.natCast_nonneg _) ?_
      refine hd_ipush (z := 0) pkX14_read rfl ?_
      refine hd_putI pkX14_read rfl (gc37.cell 0 rfl).1 (gc37.cell 0 rfl).2.1 (fun hh4 ehh4 => ?_)
      have ghh4 : Str t14 r14 hh4 := by rw [ehh4]; exact gc37.setF rfl
      have a50 : 0 ≤ ga hh4 2495 20 ∧ ga hh4 2495 20 ≤ 50 := by
        have z := jj.2.2
        rw [ga_wr ehh4 (by decide) (by decide), if_neg (by decide)]
        omega
      have oo := oo.trans ((Only.wr ehh4).mono (by decide))
      have jj := jj.size0 ehh4
      have bl := fun (j : Int) (j0 : 0 ≤ j) (j1 : j < bm) => (by rw [(Only.wr ehh4).ga (d := 2509) (by decide), (Only.wr ehh4).ga (d := 2510) (by decide)]; exact bl j j0 j1 : (1 ≤ ga hh4 2509 j ∧ ga hh4 2509 j ≤ 12) ∧ (1 ≤ ga hh4 2510 j ∧ ga hh4 2510 j ≤ 12))
      have e10 : ga hh4 2495 10 = 0 := (ga_wr ehh4 (by decide) (by decide)).trans (if_pos rfl)
      refine hd_iload pkX14_read rfl rfl ?_
      refine hd_if_ne pkX14_read rfl (fun c5 => ?_) (fun c5 => ?_)
      · skip
        refine hd_aload pkX14_read rfl rfl (Int.natCast_nonneg _) ?_
        refine hd_iload pkX14_read rfl rfl ?_
        refine hd_putI pkX14_read rfl (ghh4.cell 0 rfl).1 (ghh4.cell 0 rfl).2.1 (fun hh6 ehh6 => ?_)
        have ghh6 : Str t14 r14 hh6 := by rw [ehh6]; exact ghh4.setF rfl
        have oo := oo.trans ((Only.wr ehh6).mono (by decide))
        have e3 : ga hh6 2495 3 = bm := (ga_wr ehh6 (by decide) (by decide)).trans (if_pos rfl)
        have e10 : ga hh6 2495 10 = 0 := ((ga_wr ehh6 (by decide) (by decide)).trans (if_neg (by decide))).trans (by have z := jj.2.2; exact e10)
        have hs : ∀ j : Int, 0 ≤ j → j < 4 → -1000 ≤ ga hh6 2503 j ∧ ga hh6 2503 j ≤ 1000 := fun j j0 j1 => by
          rw [(Only.wr ehh6).ga (d := 2503) (by decide)]
          exact jj.1.1.2.2.2 j j0 j1
        have bl := fun (j : Int) (j0 : 0 ≤ j) (j1 : j < bm) => (by rw [(Only.wr ehh6).ga (d := 2509) (by decide), (Only.wr ehh6).ga (d := 2510) (by decide)]; exact bl j j0 j1 : (1 ≤ ga hh6 2509 j ∧ ga hh6 2509 j ≤ 12) ∧ (1 ≤ ga hh6 2510 j ∧ ga hh6 2510 j ≤ 12))
        refine hd_ipush (z := 0) pkX14_read rfl ?_
        refine hd_istore pkX14_read rfl rfl ?_
        change MW _ _ _ _ _ [(3, (0, 0)), (2, (0, g2)), (0, (2, ((2495 : Nat) : Int))), (1, (0, bm))] _ _
        have lp63 : ∀ (N63 : Nat) (k : Int) (hl63 : MH), Str t14 r14 hl63 → (Only C14 h hl63) → (ga hl63 2495 3 = bm) → (ga hl63 2495 10 = 0) → (∀ j : Int, 0 ≤ j → j < 4 → -1000 ≤ ga hl63 2503 j ∧ ga hl63 2503 j ≤ 1000) → (∀ j : Int, 0 ≤ j → j < bm → (1 ≤ ga hl63 2509 j ∧ ga hl63 2509 j ≤ 12) ∧ (1 ≤ ga hl63 2510 j ∧ ga hl63 2510 j ≤ 12)) → (0 ≤ k ∧ k ≤ bm + 1) → bm + 1 - k < (N63 : Int) → MW KX14_read Q 0 0 (pcA pgX14_read 63) [(0, (2, ((2495 : Nat) : Int))), (1, (0, bm)), (2, (0, g2)), (3, (0, k))] [] hl63 := by
          intro N63
          induction N63 with
          | zero => intro k hl63 g63 oo e3 e10 hs bl kb hm63; exfalso; omega
          | succ N63 ih63 =>
            intro k hl63 g63 oo e3 e10 hs bl kb hm63
            refine hd_iload pkX14_read rfl rfl ?_
            refine hd_aload pkX14_read rfl rfl (Int.natCast_nonneg _) ?_
            refine hd_getI pkX14_read rfl (g63.cell 0 rfl).1 (g63.cell 0 rfl).2.1 (fun v7 ev7 rv7 => ?_)
            have qv7 : bm = v7 := by rw [ev7]; exact e3.symm
            subst qv7
            refine hd_ic_gt pkX14_read rfl (fun c8 => ?_) (fun c8 => ?_)
            · skip
              refine hd_ipush (z := 0) pkX14_read rfl ?_
              refine hd_istore pkX14_read rfl rfl ?_
              change MW _ _ _ _ _ [(3, (0, 0)), (0, (2, ((2495 : Nat) : Int))), (1, (0, bm)), (2, (0, g2))] _ _
              have lp92 : ∀ (N92 : Nat) (k : Int) (hl92 : MH), Str t14 r14 hl92 → (Only C14 h hl92) → (ga hl92 2495 3 = bm) → (ga hl92 2495 10 = 0) → (∀ j : Int, 0 ≤ j → j < 4 → -1000 ≤ ga hl92 2503 j ∧ ga hl92 2503 j ≤ 1000) → (∀ j : Int, 0 ≤ j → j < bm → (1 ≤ ga hl92 2509 j ∧ ga hl92 2509 j ≤ 12) ∧ (1 ≤ ga hl92 2510 j ∧ ga hl92 2510 j ≤ 12)) → (0 ≤ k ∧ k ≤ bm) → (∀ j : Int, 0 ≤ j → j < k → (1 ≤ ga hl92 2498 j ∧ ga hl92 2498 j ≤ 12) ∧ (1 ≤ ga hl92 2499 j ∧ ga hl92 2499 j ≤ 12)) → bm - k < (N92 : Int) → MW KX14_read Q 0 0 (pcA pgX14_read 92) [(0, (2, ((2495 : Nat) : Int))), (1, (0, bm)), (2, (0, g2)), (3, (0, k))] [] hl92 := by
                intro N92
                induction N92 with
                | zero => intro k hl92 g92 oo e3 e10 hs bl kb ls hm92; exfalso; omega
                | succ N92 ih92 =>
                  intro k hl92 g92 oo e3 e10 hs bl kb ls hm92
                  refine hd_iload pkX14_read rfl rfl ?_
                  refine hd_aload pkX14_read rfl rfl (Int.natCast_nonneg _) ?_
                  refine hd_getI pkX14_read rfl (g92.cell 0 rfl).1 (g92.cell 0 rfl).2.1 (fun v9 ev9 rv9 => ?_)
                  have qv9 : bm = v9 := by rw [ev9]; exact e3.symm
                  subst qv9
                  refine hd_ic_ge pkX14_read rfl (fun c10 => ?_) (fun c10 => ?_)
                  · skip
                    have u7 : k = bm := by omega
                    rw [u7] at ls
                    refine hd_aload pkX14_read rfl rfl (Int.natCast_nonneg _) ?_
                    refine hd_ipush (z := 0) pkX14_read rfl ?_
                    refine hd_putI pkX14_read rfl (g92.cell 0 rfl).1 (g92.cell 0 rfl).2.1 (fun hh11 ehh11 => ?_)
                    have ghh11 : Str t14 r14 hh11 := by rw [ehh11]; exact g92.setF rfl
                    have oo := oo.trans ((Only.wr ehh11).mono (by decide))
                    have js : J4s hh11 bm := ⟨⟨by omega, by omega⟩, ((ga_wr ehh11 (by decide) (by decide)).trans (if_neg (by decide))).trans e3, fun j j0 j1 => by
                      rw [(Only.wr ehh11).ga (d := 2498) (by decide), (Only.wr ehh11).ga (d := 2499) (by decide)]
                      exact ls j j0 j1, fun j j0 j1 => by
                      rw [(Only.wr ehh11).ga (d := 2503) (by decide)]
                      exact hs j j0 j1⟩
                    have e12 : ga hh11 2495 12 = 0 := (ga_wr ehh11 (by decide) (by decide)).trans (if_pos rfl)
                    have e3 : ga hh11 2495 3 = bm := ((ga_wr ehh11 (by decide) (by decide)).trans (if_neg (by decide))).trans e3
                    have e10 : ga hh11 2495 10 = 0 := ((ga_wr ehh11 (by decide) (by decide)).trans (if_neg (by decide))).trans e10
                    refine hd_aload pkX14_read rfl rfl (Int.natCast_nonneg _) ?_
                    refine hd_ipush (z := 0) pkX14_read rfl ?_
                    refine hd_putZ pkX14_read rfl (ghh11.cell 0 rfl).1 (ghh11.cell 0 rfl).2.1 (by omega) (fun hh12 ehh12 => ?_)
                    have ghh12 : Str t14 r14 hh12 := by rw [ehh12]; exact ghh11.setF rfl
                    have oo := oo.trans ((Only.wr ehh12).mono (by decide))
                    have e12 : ga hh12 2495 12 = 0 := ((ga_wr ehh12 (by decide) (by decide)).trans (if_neg (by decide))).trans e12
                    have e10 : ga hh12 2495 10 = 0 := ((ga_wr ehh12 (by decide) (by decide)).trans (if_neg (by decide))).trans e10
                    have e3 : ga hh12 2495 3 = bm := ((ga_wr ehh12 (by decide) (by decide)).trans (if_neg (by decide))).trans e3
                    have jN : J14 hh12 bm := ⟨J4.uns js ehh12, ⟨by rw [e12]; decide, fun i a b => by rw [e12] at b; omega⟩, by rw [e10]; decide⟩
                    refine hd_aload pkX14_read rfl rfl (Int.natCast_nonneg _) ?_
                    refine hd_getI pkX14_read rfl (ghh12.cell 0 rfl).1 (ghh12.cell 0 rfl).2.1 (fun v13 ev13 rv13 => ?_)
                    have qv13 : bm = v13 := by rw [ev13]; exact e3.symm
                    subst qv13
                    refine hd_iret pkX14_read rfl ?_
                    subst eQ
                    refine ⟨rfl, rfl, ?_, oo, ghh12, _, jN⟩
                    show -100 ≤ (bm : Int) ∧ (bm : Int) ≤ 3
                    omega
                  · skip
                    refine hd_aload pkX14_read rfl rfl (Int.natCast_nonneg _) ?_
                    refine hd_getR (n := 2498) pkX14_read rfl (g92.cell 0 rfl).1 (g92.cell 0 rfl).2.1 (g92.ref 2 rfl) ?_
                    refine hd_iload pkX14_read rfl rfl ?_
                    refine hd_aload pkX14_read rfl rfl (Int.natCast_nonneg _) ?_
                    refine hd_getR (n := 2509) pkX14_read rfl (g92.cell 0 rfl).1 (g92.cell 0 rfl).2.1 (g92.ref 13 rfl) ?_
                    refine hd_iload pkX14_read rfl rfl ?_
                    refine hd_iald (n := 3) pkX14_read rfl (g92.cell 14 rfl) (by omega) (by omega) (fun v14 ev14 rv14 => ?_)
                    have bl9 : 1 ≤ v14 ∧ v14 ≤ 12 := by rw [ev14]; exact (bl k (by omega) (by omega)).1
                    refine hd_iast (n := 3) pkX14_read rfl (g92.cell 3 rfl) (by decide) (by omega) (by omega) (fun hh15 ehh15 => ?_)
                    have ghh15 : Str t14 r14 hh15 := by rw [ehh15]; exact g92.setA rfl
                    have oo := oo.trans ((Only.wr ehh15).mono (by decide))
                    have e3 := ((Only.wr ehh15).ga (d := 2495) (by decide) 3).trans e3
                    have e10 := ((Only.wr ehh15).ga (d := 2495) (by decide) 10).trans e10
                    have hs := fun (j : Int) (j0 : 0 ≤ j) (j1 : j < 4) => (by rw [(Only.wr ehh15).ga (d := 2503) (by decide)]; exact hs j j0 j1 : -1000 ≤ ga hh15 2503 j ∧ ga hh15 2503 j ≤ 1000)
                    have bl := fun (j : Int) (j0 : 0 ≤ j) (j1 : j < bm) => (by rw [(Only.wr ehh15).ga (d := 2509) (by decide), (Only.wr ehh15).ga (d := 2510) (by decide)]; exact bl j j0 j1 : (1 ≤ ga hh15 2509 j ∧ ga hh15 2509 j ≤ 12) ∧ (1 ≤ ga hh15 2510 j ∧ ga hh15 2510 j ≤ 12))
                    have ls := fun (j : Int) (j0 : 0 ≤ j) (j1 : j < k) => (by rw [ga_wr ehh15 (by omega) j0, if_neg (by omega), (Only.wr ehh15).ga (d := 2499) (by decide)]; exact ls j j0 j1 : (1 ≤ ga hh15 2498 j ∧ ga hh15 2498 j ≤ 12) ∧ (1 ≤ ga hh15 2499 j ∧ ga hh15 2499 j ≤ 12))
                    have nL : 1 ≤ ga hh15 2498 k ∧ ga hh15 2498 k ≤ 12 := by rw [ga_wr ehh15 (by omega) (by omega), if_pos rfl]; exact bl9
                    refine hd_aload pkX14_read rfl rfl (Int.natCast_nonneg _) ?_
                    refine hd_getR (n := 2499) pkX14_read rfl (ghh15.cell 0 rfl).1 (ghh15.cell 0 rfl).2.1 (ghh15.ref 3 rfl) ?_
                    refine hd_iload pkX14_read rfl rfl ?_
                    refine hd_aload pkX14_read rfl rfl (Int.natCast_nonneg _) ?_
                    refine hd_getR (n := 2510) pkX14_read rfl (ghh15.cell 0 rfl).1 (ghh15.cell 0 rfl).2.1 (ghh15.ref 14 rfl) ?_
                    refine hd_iload pkX14_read rfl rfl ?_
                    refine hd_iald (n := 3) pkX14_read rfl (ghh15.cell 15 rfl) (by omega) (by omega) (fun v16 ev16 rv16 => ?_)
                    have bl8 : 1 ≤ v16 ∧ v16 ≤ 12 := by rw [ev16]; exact (bl k (by omega) (by omega)).2
                    refine hd_iast (n := 3) pkX14_read rfl (ghh15.cell 4 rfl) (by decide) (by omega) (by omega) (fun hh17 ehh17 => ?_)
                    have ghh17 : Str t14 r14 hh17 := by rw [ehh17]; exact ghh15.setA rfl
                    have oo := oo.trans ((Only.wr ehh17).mono (by decide))
                    have e3 := ((Only.wr ehh17).ga (d := 2495) (by decide) 3).trans e3
                    have e10 := ((Only.wr ehh17).ga (d := 2495) (by decide) 10).trans e10
                    have hs := fun (j : Int) (j0 : 0 ≤ j) (j1 : j < 4) => (by rw [(Only.wr ehh17).ga (d := 2503) (by decide)]; exact hs j j0 j1 : -1000 ≤ ga hh17 2503 j ∧ ga hh17 2503 j ≤ 1000)
                    have bl := fun (j : Int) (j0 : 0 ≤ j) (j1 : j < bm) => (by rw [(Only.wr ehh17).ga (d := 2509) (by decide), (Only.wr ehh17).ga (d := 2510) (by decide)]; exact bl j j0 j1 : (1 ≤ ga hh17 2509 j ∧ ga hh17 2509 j ≤ 12) ∧ (1 ≤ ga hh17 2510 j ∧ ga hh17 2510 j ≤ 12))
                    have ls := fun (j : Int) (j0 : 0 ≤ j) (j1 : j < k) => (by rw [ga_wr ehh17 (by omega) j0, if_neg (by omega), (Only.wr ehh17).ga (d := 2498) (by decide)]; exact ls j j0 j1 : (1 ≤ ga hh17 2498 j ∧ ga hh17 2498 j ≤ 12) ∧ (1 ≤ ga hh17 2499 j ∧ ga hh17 2499 j ≤ 12))
                    have nL := (by rw [(Only.wr ehh17).ga (d := 2498) (by decide)]; exact nL : 1 ≤ ga hh17 2498 k ∧ ga hh17 2498 k ≤ 12)
                    have nS : 1 ≤ ga hh17 2499 k ∧ ga hh17 2499 k ≤ 12 := by rw [ga_wr ehh17 (by omega) (by omega), if_pos rfl]; exact bl8
                    refine hd_aload pkX14_read rfl rfl (Int.natCast_nonneg _) ?_
                    refine hd_getR (n := 2502) pkX14_read rfl (ghh17.cell 0 rfl).1 (ghh17.cell 0 rfl).2.1 (ghh17.ref 6 rfl) ?_
                    refine hd_ipush (z := 2) pkX14_read rfl ?_
                    refine hd_iload pkX14_read rfl rfl ?_
                    refine hd_imul pkX14_read rfl (by omega) ?_
                    refine hd_aload pkX14_read rfl rfl (Int.natCast_nonneg _) ?_
                    refine hd_getR (n := 2513) pkX14_read rfl (ghh17.cell 0 rfl).1 (ghh17.cell 0 rfl).2.1 (ghh17.ref 17 rfl) ?_
                    refine hd_ipush (z := 2) pkX14_read rfl ?_
                    refine hd_iload pkX14_read rfl rfl ?_
                    refine hd_imul pkX14_read rfl (by omega) ?_
                    refine hd_zald (n := 6) pkX14_read rfl (ghh17.cell 18 rfl) (by omega) (by omega) (fun v18 ev18 rv18 => ?_)
                    refine hd_zast (n := 6) pkX14_read rfl (ghh17.cell 7 rfl) (by decide) (by omega) (by omega) (by omega) (fun hh19 ehh19 => ?_)
                    have ghh19 : Str t14 r14 hh19 := by rw [ehh19]; exact ghh17.setA rfl
                    have oo := oo.trans ((Only.wr ehh19).mono (by decide))
                    have e3 := ((Only.wr ehh19).ga (d := 2495) (by decide) 3).trans e3
                    have e10 := ((Only.wr ehh19).ga (d := 2495) (by decide) 10).trans e10
                    have hs := fun (j : Int) (j0 : 0 ≤ j) (j1 : j < 4) => (by rw [(Only.wr ehh19).ga (d := 2503) (by decide)]; exact hs j j0 j1 : -1000 ≤ ga hh19 2503 j ∧ ga hh19 2503 j ≤ 1000)
                    have bl := fun (j : Int) (j0 : 0 ≤ j) (j1 : j < bm) => (by rw [(Only.wr ehh19).ga (d := 2509) (by decide), (Only.wr ehh19).ga (d := 2510) (by decide)]; exact bl j j0 j1 : (1 ≤ ga hh19 2509 j ∧ ga hh19 2509 j ≤ 12) ∧ (1 ≤ ga hh19 2510 j ∧ ga hh19 2510 j ≤ 12))
                    have ls := fun (j : Int) (j0 : 0 ≤ j) (j1 : j < k) => (by rw [(Only.wr ehh19).ga (d := 2498) (by decide), (Only.wr ehh19).ga (d := 2499) (by decide)]; exact ls j j0 j1 : (1 ≤ ga hh19 2498 j ∧ ga hh19 2498 j ≤ 12) ∧ (1 ≤ ga hh19 2499 j ∧ ga hh19 2499 j ≤ 12))
                    have nL := (by rw [(Only.wr ehh19).ga (d := 2498) (by decide)]; exact nL : 1 ≤ ga hh19 2498 k ∧ ga hh19 2498 k ≤ 12)
                    have nS := (by rw [(Only.wr ehh19).ga (d := 2499) (by decide)]; exact nS : 1 ≤ ga hh19 2499 k ∧ ga hh19 2499 k ≤ 12)
                    refine hd_aload pkX14_read rfl rfl (Int.natCast_nonneg _) ?_
                    refine hd_getR (n := 2502) pkX14_read rfl (ghh19.cell 0 rfl).1 (ghh19.cell 0 rfl).2.1 (ghh19.ref 6 rfl) ?_
                    refine hd_ipush (z := 2) pkX14_read rfl ?_
                    refine hd_iload pkX14_read rfl rfl ?_
                    refine hd_imul pkX14_read rfl (by omega) ?_
                    refine hd_ipush (z := 1) pkX14_read rfl ?_
                    refine hd_iadd pkX14_read rfl (by omega) ?_
                    refine hd_aload pkX14_read rfl rfl (Int.natCast_nonneg _) ?_
                    refine hd_getR (n := 2513) pkX14_read rfl (ghh19.cell 0 rfl).1 (ghh19.cell 0 rfl).2.1 (ghh19.ref 17 rfl) ?_
                    refine hd_ipush (z := 2) pkX14_read rfl ?_
                    refine hd_iload pkX14_read rfl rfl ?_
                    refine hd_imul pkX14_read rfl (by omega) ?_
                    refine hd_ipush (z := 1) pkX14_read rfl ?_
                    refine hd_iadd pkX14_read rfl (by omega) ?_
                    refine hd_zald (n := 6) pkX14_read rfl (ghh19.cell 18 rfl) (by omega) (by omega) (fun v20 ev20 rv20 => ?_)
                    refine hd_zast (n := 6) pkX14_read rfl (ghh19.cell 7 rfl) (by decide) (by omega) (by omega) (by omega) (fun hh21 ehh21 => ?_)
                    have ghh21 : Str t14 r14 hh21 := by rw [ehh21]; exact ghh19.setA rfl
                    have oo := oo.trans ((Only.wr ehh21).mono (by decide))
                    have e3 := ((Only.wr ehh21).ga (d := 2495) (by decide) 3).trans e3
                    have e10 := ((Only.wr ehh21).ga (d := 2495) (by decide) 10).trans e10
                    have hs := fun (j : Int) (j0 : 0 ≤ j) (j1 : j < 4) => (by rw [(Only.wr ehh21).ga (d := 2503) (by decide)]; exact hs j j0 j1 : -1000 ≤ ga hh21 2503 j ∧ ga hh21 2503 j ≤ 1000)
                    have bl := fun (j : Int) (j0 : 0 ≤ j) (j1 : j < bm) => (by rw [(Only.wr ehh21).ga (d := 2509) (by decide), (Only.wr ehh21).ga (d := 2510) (by decide)]; exact bl j j0 j1 : (1 ≤ ga hh21 2509 j ∧ ga hh21 2509 j ≤ 12) ∧ (1 ≤ ga hh21 2510 j ∧ ga hh21 2510 j ≤ 12))
                    have ls := fun (j : Int) (j0 : 0 ≤ j) (j1 : j < k) => (by rw [(Only.wr ehh21).ga (d := 2498) (by decide), (Only.wr ehh21).ga (d := 2499) (by decide)]; exact ls j j0 j1 : (1 ≤ ga hh21 2498 j ∧ ga hh21 2498 j ≤ 12) ∧ (1 ≤ ga hh21 2499 j ∧ ga hh21 2499 j ≤ 12))
                    have nL := (by rw [(Only.wr ehh21).ga (d := 2498) (by decide)]; exact nL : 1 ≤ ga hh21 2498 k ∧ ga hh21 2498 k ≤ 12)
                    have nS := (by rw [(Only.wr ehh21).ga (d := 2499) (by decide)]; exact nS : 1 ≤ ga hh21 2499 k ∧ ga hh21 2499 k ≤ 12)
                    refine hd_iinc (z := 1) pkX14_read rfl rfl (by omega) rfl ?_
                    change MW _ _ _ _ _ [(3, (0, (k + 1))), (0, (2, ((2495 : Nat) : Int))), (1, (0, bm)), (2, (0, g2))] _ _
                    refine hd_goto pkX14_read rfl ?_
                    refine m_sub [(0, (2, ((2495 : Nat) : Int))), (1, (0, bm)), (2, (0, g2)), (3, (0, (k + 1)))] (List.forall_mem_cons.mpr ⟨rfl, List.forall_mem_cons.mpr ⟨rfl, List.forall_mem_cons.mpr ⟨rfl, List.forall_mem_cons.mpr ⟨rfl, fun _ h => absurd h List.not_mem_nil⟩⟩⟩⟩) ?_
                    refine ih92  ((k + 1)) hh21 ghh21 ?_ ?_ ?_ ?_ ?_ ?_ ?_ ?_
                    · exact oo
                    · exact e3
                    · exact e10
                    · exact hs
                    · exact bl
                    · omega
                    · intro j j0 j1
                      by_cases q : j = k
                      · rw [q]
                        exact ⟨nL, nS⟩
                      · exact ls j j0 (by omega)
                    · omega
              refine m_sub [(0, (2, ((2495 : Nat) : Int))), (1, (0, bm)), (2, (0, g2)), (3, (0, 0))] (List.forall_mem_cons.mpr ⟨rfl, List.forall_mem_cons.mpr ⟨rfl, List.forall_mem_cons.mpr ⟨rfl, List.forall_mem_cons.mpr ⟨rfl, fun _ h => absurd h List.not_mem_nil⟩⟩⟩⟩) ?_
              refine lp92 ((bm - (0)) + 1).toNat (0) hl63 g63 ?_ ?_ ?_ ?_ ?_ ?_ ?_ ?_
              · exact oo
              · exact e3
              · exact e10
              · exact hs
              · exact bl
              · omega
              · intro j j0 j1
                omega
              · omega
            · skip
              refine hd_aload pkX14_read rfl rfl (Int.natCast_nonneg _) ?_
              refine hd_getR (n := 2500) pkX14_read rfl (g63.cell 0 rfl).1 (g63.cell 0 rfl).2.1 (g63.ref 4 rfl) ?_
              refine hd_iload pkX14_read rfl rfl ?_
              refine hd_aload pkX14_read rfl rfl (Int.natCast_nonneg _) ?_
              refine hd_getR (n := 2511) pkX14_read rfl (g63.cell 0 rfl).1 (g63.cell 0 rfl).2.1 (g63.ref 15 rfl) ?_
              refine hd_iload pkX14_read rfl rfl ?_
              refine hd_zald (n := 4) pkX14_read rfl (g63.cell 16 rfl) (by omega) (by omega) (fun v22 ev22 rv22 => ?_)
              refine hd_zast (n := 4) pkX14_read rfl (g63.cell 5 rfl) (by decide) (by omega) (by omega) (by omega) (fun hh23 ehh23 => ?_)
              have ghh23 : Str t14 r14 hh23 := by rw [ehh23]; exact g63.setA rfl
              have oo := oo.trans ((Only.wr ehh23).mono (by decide))
              have e3 := ((Only.wr ehh23).ga (d := 2495) (by decide) 3).trans e3
              have e10 := ((Only.wr ehh23).ga (d := 2495) (by decide) 10).trans e10
              have hs := fun (j : Int) (j0 : 0 ≤ j) (j1 : j < 4) => (by rw [(Only.wr ehh23).ga (d := 2503) (by decide)]; exact hs j j0 j1 : -1000 ≤ ga hh23 2503 j ∧ ga hh23 2503 j ≤ 1000)
              have bl := fun (j : Int) (j0 : 0 ≤ j) (j1 : j < bm) => (by rw [(Only.wr ehh23).ga (d := 2509) (by decide), (Only.wr ehh23).ga (d := 2510) (by decide)]; exact bl j j0 j1 : (1 ≤ ga hh23 2509 j ∧ ga hh23 2509 j ≤ 12) ∧ (1 ≤ ga hh23 2510 j ∧ ga hh23 2510 j ≤ 12))
              refine hd_aload pkX14_read rfl rfl (Int.natCast_nonneg _) ?_
              refine hd_getR (n := 2501) pkX14_read rfl (ghh23.cell 0 rfl).1 (ghh23.cell 0 rfl).2.1 (ghh23.ref 5 rfl) ?_
              refine hd_iload pkX14_read rfl rfl ?_
              refine hd_aload pkX14_read rfl rfl (Int.natCast_nonneg _) ?_
              refine hd_getR (n := 2512) pkX14_read rfl (ghh23.cell 0 rfl).1 (ghh23.cell 0 rfl).2.1 (ghh23.ref 16 rfl) ?_
              refine hd_iload pkX14_read rfl rfl ?_
              refine hd_zald (n := 4) pkX14_read rfl (ghh23.cell 17 rfl) (by omega) (by omega) (fun v24 ev24 rv24 => ?_)
              refine hd_zast (n := 4) pkX14_read rfl (ghh23.cell 6 rfl) (by decide) (by omega) (by omega) (by omega) (fun hh25 ehh25 => ?_)
              have ghh25 : Str t14 r14 hh25 := by rw [ehh25]; exact ghh23.setA rfl
              have oo := oo.trans ((Only.wr ehh25).mono (by decide))
              have e3 := ((Only.wr ehh25).ga (d := 2495) (by decide) 3).trans e3
              have e10 := ((Only.wr ehh25).ga (d := 2495) (by decide) 10).trans e10
              have hs := fun (j : Int) (j0 : 0 ≤ j) (j1 : j < 4) => (by rw [(Only.wr ehh25).ga (d := 2503) (by decide)]; exact hs j j0 j1 : -1000 ≤ ga hh25 2503 j ∧ ga hh25 2503 j ≤ 1000)
              have bl := fun (j : Int) (j0 : 0 ≤ j) (j1 : j < bm) => (by rw [(Only.wr ehh25).ga (d := 2509) (by decide), (Only.wr ehh25).ga (d := 2510) (by decide)]; exact bl j j0 j1 : (1 ≤ ga hh25 2509 j ∧ ga hh25 2509 j ≤ 12) ∧ (1 ≤ ga hh25 2510 j ∧ ga hh25 2510 j ≤ 12))
              refine hd_aload pkX14_read rfl rfl (Int.natCast_nonneg _) ?_
              refine hd_getR (n := 2503) pkX14_read rfl (ghh25.cell 0 rfl).1 (ghh25.cell 0 rfl).2.1 (ghh25.ref 7 rfl) ?_
              refine hd_iload pkX14_read rfl rfl ?_
              refine hd_ipush (z := 0) pkX14_read rfl ?_
              refine hd_iast (n := 4) pkX14_read rfl (ghh25.cell 8 rfl) (by decide) (by omega) (by omega) (fun hh26 ehh26 => ?_)
              have ghh26 : Str t14 r14 hh26 := by rw [ehh26]; exact ghh25.setA rfl
              have oo := oo.trans ((Only.wr ehh26).mono (by decide))
              have e3 := ((Only.wr ehh26).ga (d := 2495) (by decide) 3).trans e3
              have e10 := ((Only.wr ehh26).ga (d := 2495) (by decide) 10).trans e10
              have hs := fun (j : Int) (j0 : 0 ≤ j) (j1 : j < 4) => (by
                rw [ga_wr ehh26 (by omega) j0]
                split
                · decide
                · exact hs j j0 j1 : -1000 ≤ ga hh26 2503 j ∧ ga hh26 2503 j ≤ 1000)
              have bl := fun (j : Int) (j0 : 0 ≤ j) (j1 : j < bm) => (by rw [(Only.wr ehh26).ga (d := 2509) (by decide), (Only.wr ehh26).ga (d := 2510) (by decide)]; exact bl j j0 j1 : (1 ≤ ga hh26 2509 j ∧ ga hh26 2509 j ≤ 12) ∧ (1 ≤ ga hh26 2510 j ∧ ga hh26 2510 j ≤ 12))
              refine hd_iinc (z := 1) pkX14_read rfl rfl (by omega) rfl ?_
              change MW _ _ _ _ _ [(3, (0, (k + 1))), (0, (2, ((2495 : Nat) : Int))), (1, (0, bm)), (2, (0, g2))] _ _
              refine hd_goto pkX14_read rfl ?_
              refine m_sub [(0, (2, ((2495 : Nat) : Int))), (1, (0, bm)), (2, (0, g2)), (3, (0, (k + 1)))] (List.forall_mem_cons.mpr ⟨rfl, List.forall_mem_cons.mpr ⟨rfl, List.forall_mem_cons.mpr ⟨rfl, List.forall_mem_cons.mpr ⟨rfl, fun _ h => absurd h List.not_mem_nil⟩⟩⟩⟩) ?_
              refine ih63  ((k + 1)) hh26 ghh26 ?_ ?_ ?_ ?_ ?_ ?_ ?_
              · exact oo
              · exact e3
              · exact e10
              · exact hs
              · exact bl
              · omega
              · omega
        refine m_sub [(0, (2, ((2495 : Nat) : Int))), (1, (0, bm)), (2, (0, g2)), (3, (0, 0))] (List.forall_mem_cons.mpr ⟨rfl, List.forall_mem_cons.mpr ⟨rfl, List.forall_mem_cons.mpr ⟨rfl, List.forall_mem_cons.mpr ⟨rfl, fun _ h => absurd h List.not_mem_nil⟩⟩⟩⟩) ?_
        refine lp63 ((bm + 1 - (0)) + 1).toNat (0) hh6 ghh6 ?_ ?_ ?_ ?_ ?_ ?_ ?_
        · exact oo
        · exact e3
        · exact e10
        · exact hs
        · exact bl
        · omega
        · omega
      · skip
        refine hd_ipush (z := (-1)) pkX14_read rfl ?_
        refine hd_aload pkX14_read rfl rfl (Int.natCast_nonneg _) ?_
        refine hd_getI pkX14_read rfl (ghh4.cell 0 rfl).1 (ghh4.cell 0 rfl).2.1 (fun v27 ev27 rv27 => ?_)
        have q55 : 0 ≤ v27 ∧ v27 ≤ 50 := by rw [ev27]; exact a50
        refine hd_isub pkX14_read rfl (by omega) ?_
        refine hd_iret pkX14_read rfl ?_
        subst eQ
        refine ⟨rfl, rfl, ?_, oo, ghh4, _, jj⟩
        show -100 ≤ (((-1) - v27) : Int) ∧ (((-1) - v27) : Int) ≤ 3
        omega
    refine hd_iload pkX14_read rfl rfl ?_
    refine hd_if_eq pkX14_read rfl (fun c28 => ?_) (fun c28 => ?_)
    · skip
      refine hd_ipush (z := 0) pkX14_read rfl ?_
      refine cut47 (0) ?_
      · omega
    · skip
      refine hd_aload pkX14_read rfl rfl (Int.natCast_nonneg _) ?_
      refine hd_getI pkX14_read rfl (gc37.cell 0 rfl).1 (gc37.cell 0 rfl).2.1 (fun v29 ev29 rv29 => ?_)
      refine hd_aload pkX14_read rfl rfl (Int.natCast_nonneg _) ?_
      refine hd_getI pkX14_read rfl (gc37.cell 0 rfl).1 (gc37.cell 0 rfl).2.1 (fun v30 ev30 rv30 => ?_)
      refine hd_ic_ne pkX14_read rfl (fun c31 => ?_) (fun c31 => ?_)
      · skip
        refine hd_ipush (z := 0) pkX14_read rfl ?_
        refine cut47 (0) ?_
        · omega
      · skip
        refine hd_ipush (z := 1) pkX14_read rfl ?_
        refine hd_goto pkX14_read rfl ?_
        refine cut47 (1) ?_
        · omega
  refine hd_istore pkX14_read rfl rfl ?_
  change MW _ _ _ _ _ [(2, (0, n0)), (1, (0, 0)), (0, (2, ((2495 : Nat) : Int)))] _ _
  have lp12 : ∀ (N12 : Nat) (bm gd : Int) (hl12 : MH), Str t14 r14 hl12 → (Only C14 h hl12) → (J14 hl12 M) → (0 ≤ ga hl12 2495 20 ∧ ga hl12 2495 20 ≤ ga hl12 2495 10) → (0 ≤ bm ∧ bm ≤ 3) → (gd = 0 ∨ gd = 1) → (∀ j : Int, 0 ≤ j → j < bm → (1 ≤ ga hl12 2509 j ∧ ga hl12 2509 j ≤ 12) ∧ (1 ≤ ga hl12 2510 j ∧ ga hl12 2510 j ≤ 12)) → 3 - bm + gd < (N12 : Int) → MW KX14_read Q 0 0 (pcA pgX14_read 12) [(0, (2, ((2495 : Nat) : Int))), (1, (0, bm)), (2, (0, gd))] [] hl12 := by
    intro N12
    induction N12 with
    | zero => intro bm gd hl12 g12 oo jj az bmb gdb bl hm12; exfalso; omega
    | succ N12 ih12 =>
      intro bm gd hl12 g12 oo jj az bmb gdb bl hm12
      refine hd_iload pkX14_read rfl rfl ?_
      refine hd_if_eq pkX14_read rfl (fun c32 => ?_) (fun c32 => ?_)
      · skip
        refine cut37 (bm) (gd) hl12 g12 ?_ ?_ ?_ ?_ ?_ ?_ ?_
        · exact oo
        · exact jj
        · exact az
        · omega
        · omega
        · exact bl
        · omega
      · skip
        refine hd_iload pkX14_read rfl rfl ?_
        refine hd_ipush (z := 3) pkX14_read rfl ?_
        refine hd_ic_ge pkX14_read rfl (fun c33 => ?_) (fun c33 => ?_)
        · skip
          refine cut37 (bm) (gd) hl12 g12 ?_ ?_ ?_ ?_ ?_ ?_ ?_
          · exact oo
          · exact jj
          · exact az
          · omega
          · omega
          · exact bl
          · omega
        · skip
          refine hd_iload pkX14_read rfl rfl ?_
          refine hd_if_eq pkX14_read rfl (fun c34 => ?_) (fun c34 => ?_)
          · skip
            refine hd_aload pkX14_read rfl rfl (Int.natCast_nonneg _) ?_
            refine hd_iload pkX14_read rfl rfl ?_
            refine hd_callV pkX14_read rfl (q := (KX14_readBeam, yX14_readBeam, 14, 1, 0)) rfl rfl rfl (As := [(0, bm)]) (rest := []) (c := 2495) rfl rfl (Nat.le_of_ble_eq_true rfl) (g12.cell 0 rfl).1 (g12.cell 0 rfl).2.1 (h_X14_readBeam ⟨by omega, by omega⟩ az jj.2.2.2 g12) (hd_bI (fun n1 hc35 pq => ?_))
            have ghc35 : Str t14 r14 hc35 := pq.2.2.2
            have oo := oo.trans (pq.2.1.1.mono (by decide))
            have jj := pq.2.1.j14 jj
            have az := pq.2.1.2.2
            have n1b : n1 = 0 ∨ n1 = 1 := pq.1.imp id (fun q => q.1)
            have blN : ∀ j : Int, 0 ≤ j → j < bm + n1 → (1 ≤ ga hc35 2509 j ∧ ga hc35 2509 j ≤ 12) ∧ (1 ≤ ga hc35 2510 j ∧ ga hc35 2510 j ≤ 12) := fun j j0 j1 => by
              by_cases q : j = bm
              · rw [q]
                exact (pq.1.resolve_left (by omega)).2
              · rw [(pq.2.2.1 j j0 q).1, (pq.2.2.1 j j0 q).2]
                exact bl j j0 (by omega)
            refine hd_istore pkX14_read rfl rfl ?_
            change MW _ _ _ _ _ [(2, (0, n1)), (0, (2, ((2495 : Nat) : Int))), (1, (0, bm))] _ _
            refine hd_iload pkX14_read rfl rfl ?_
            refine hd_iload pkX14_read rfl rfl ?_
            refine hd_if_eq pkX14_read rfl (fun c36 => ?_) (fun c36 => ?_)
            · skip
              refine hd_ipush (z := 0) pkX14_read rfl ?_
              refine hd_iadd pkX14_read rfl (by omega) ?_
              refine hd_istore pkX14_read rfl rfl ?_
              change MW _ _ _ _ _ [(1, (0, (bm + 0))), (2, (0, n1)), (0, (2, ((2495 : Nat) : Int)))] _ _
              refine hd_goto pkX14_read rfl ?_
              refine m_sub [(0, (2, ((2495 : Nat) : Int))), (1, (0, (bm + 0))), (2, (0, n1))] (List.forall_mem_cons.mpr ⟨rfl, List.forall_mem_cons.mpr ⟨rfl, List.forall_mem_cons.mpr ⟨rfl, fun _ h => absurd h List.not_mem_nil⟩⟩⟩) ?_
              refine ih12  ((bm + 0)) (n1) hc35 ghc35 ?_ ?_ ?_ ?_ ?_ ?_ ?_
              · exact oo
              · exact jj
              · exact az
              · omega
              · omega
              · intro j j0 j1
                exact blN j j0 (by omega)
              · omega
            · skip
              refine hd_ipush (z := 1) pkX14_read rfl ?_
              refine hd_goto pkX14_read rfl ?_
              refine hd_iadd pkX14_read rfl (by omega) ?_
              refine hd_istore pkX14_read rfl rfl ?_
              change MW _ _ _ _ _ [(1, (0, (bm + 1))), (2, (0, n1)), (0, (2, ((2495 : Nat) : Int)))] _ _
              refine hd_goto pkX14_read rfl ?_
              refine m_sub [(0, (2, ((2495 : Nat) : Int))), (1, (0, (bm + 1))), (2, (0, n1))] (List.forall_mem_cons.mpr ⟨rfl, List.forall_mem_cons.mpr ⟨rfl, List.forall_mem_cons.mpr ⟨rfl, fun _ h => absurd h List.not_mem_nil⟩⟩⟩) ?_
              refine ih12  ((bm + 1)) (n1) hc35 ghc35 ?_ ?_ ?_ ?_ ?_ ?_ ?_
              · exact oo
              · exact jj
              · exact az
              · omega
              · omega
              · intro j j0 j1
                exact blN j j0 (by omega)
              · omega
          · skip
            refine hd_aload pkX14_read rfl rfl (Int.natCast_nonneg _) ?_
            refine hd_getI pkX14_read rfl (g12.cell 0 rfl).1 (g12.cell 0 rfl).2.1 (fun v37 ev37 rv37 => ?_)
            refine hd_aload pkX14_read rfl rfl (Int.natCast_nonneg _) ?_
            refine hd_getI pkX14_read rfl (g12.cell 0 rfl).1 (g12.cell 0 rfl).2.1 (fun v38 ev38 rv38 => ?_)
            refine hd_ic_ge pkX14_read rfl (fun c39 => ?_) (fun c39 => ?_)
            · skip
              refine cut37 (bm) (gd) hl12 g12 ?_ ?_ ?_ ?_ ?_ ?_ ?_
              · exact oo
              · exact jj
              · exact az
              · omega
              · omega
              · exact bl
              · omega
            · skip
              refine hd_aload pkX14_read rfl rfl (Int.natCast_nonneg _) ?_
              refine hd_iload pkX14_read rfl rfl ?_
              refine hd_callV pkX14_read rfl (q := (KX14_readBeam, yX14_readBeam, 14, 1, 0)) rfl rfl rfl (As := [(0, bm)]) (rest := []) (c := 2495) rfl rfl (Nat.le_of_ble_eq_true rfl) (g12.cell 0 rfl).1 (g12.cell 0 rfl).2.1 (h_X14_readBeam ⟨by omega, by omega⟩ az jj.2.2.2 g12) (hd_bI (fun n1 hc40 pq => ?_))
              have ghc40 : Str t14 r14 hc40 := pq.2.2.2
              have oo := oo.trans (pq.2.1.1.mono (by decide))
              have jj := pq.2.1.j14 jj
              have az := pq.2.1.2.2
              have n1b : n1 = 0 ∨ n1 = 1 := pq.1.imp id (fun q => q.1)
              have blN : ∀ j : Int, 0 ≤ j → j < bm + n1 → (1 ≤ ga hc40 2509 j ∧ ga hc40 2509 j ≤ 12) ∧ (1 ≤ ga hc40 2510 j ∧ ga hc40 2510 j ≤ 12) := fun j j0 j1 => by
                by_cases q : j = bm
                · rw [q]
                  exact (pq.1.resolve_left (by omega)).2
                · rw [(pq.2.2.1 j j0 q).1, (pq.2.2.1 j j0 q).2]
                  exact bl j j0 (by omega)
              refine hd_istore pkX14_read rfl rfl ?_
              change MW _ _ _ _ _ [(2, (0, n1)), (0, (2, ((2495 : Nat) : Int))), (1, (0, bm))] _ _
              refine hd_iload pkX14_read rfl rfl ?_
              refine hd_iload pkX14_read rfl rfl ?_
              refine hd_if_eq pkX14_read rfl (fun c41 => ?_) (fun c41 => ?_)
              · skip
                refine hd_ipush (z := 0) pkX14_read rfl ?_
                refine hd_iadd pkX14_read rfl (by omega) ?_
                refine hd_istore pkX14_read rfl rfl ?_
                change MW _ _ _ _ _ [(1, (0, (bm + 0))), (2, (0, n1)), (0, (2, ((2495 : Nat) : Int)))] _ _
                refine hd_goto pkX14_read rfl ?_
                refine m_sub [(0, (2, ((2495 : Nat) : Int))), (1, (0, (bm + 0))), (2, (0, n1))] (List.forall_mem_cons.mpr ⟨rfl, List.forall_mem_cons.mpr ⟨rfl, List.forall_mem_cons.mpr ⟨rfl, fun _ h => absurd h List.not_mem_nil⟩⟩⟩) ?_
                refine ih12  ((bm + 0)) (n1) hc40 ghc40 ?_ ?_ ?_ ?_ ?_ ?_ ?_
                · exact oo
                · exact jj
                · exact az
                · omega
                · omega
                · intro j j0 j1
                  exact blN j j0 (by omega)
                · omega
              · skip
                refine hd_ipush (z := 1) pkX14_read rfl ?_
                refine hd_goto pkX14_read rfl ?_
                refine hd_iadd pkX14_read rfl (by omega) ?_
                refine hd_istore pkX14_read rfl rfl ?_
                change MW _ _ _ _ _ [(1, (0, (bm + 1))), (2, (0, n1)), (0, (2, ((2495 : Nat) : Int)))] _ _
                refine hd_goto pkX14_read rfl ?_
                refine m_sub [(0, (2, ((2495 : Nat) : Int))), (1, (0, (bm + 1))), (2, (0, n1))] (List.forall_mem_cons.mpr ⟨rfl, List.forall_mem_cons.mpr ⟨rfl, List.forall_mem_cons.mpr ⟨rfl, fun _ h => absurd h List.not_mem_nil⟩⟩⟩) ?_
                refine ih12  ((bm + 1)) (n1) hc40 ghc40 ?_ ?_ ?_ ?_ ?_ ?_ ?_
                · exact oo
                · exact jj
                · exact az
                · omega
                · omega
                · intro j j0 j1
                  exact blN j j0 (by omega)
                · omega
  refine m_sub [(0, (2, ((2495 : Nat) : Int))), (1, (0, 0)), (2, (0, n0))] (List.forall_mem_cons.mpr ⟨rfl, List.forall_mem_cons.mpr ⟨rfl, List.forall_mem_cons.mpr ⟨rfl, fun _ h => absurd h List.not_mem_nil⟩⟩⟩) ?_
  refine lp12 ((3 - (0) + (n0)) + 1).toNat (0) (n0) hc3 ghc3 ?_ ?_ ?_ ?_ ?_ ?_ ?_
  · exact oo
  · exact jj
  · exact az
  · omega
  · omega
  · intro j j0 j1
    omega
  · omega
