set_option maxRecDepth 20000 in
set_option maxHeartbeats 8000000 in
theorem h_X19_run {h : MH} {t bw cn : Int} (bw9 : bw = 0 ∨ bw = 1) (j19 : J19 h cn) (g : Str t19 r19 h) : MCal KX19_run yX19_run 0 0 [(2, ((2514 : Nat) : Int)), (0, t), (0, bw)] h (mRI fun v h' => (-1 ≤ v ∧ v ≤ 140) ∧ Only C19 h h' ∧ J19 h' cn ∧ Str t19 r19 h') := by
  refine MCal.ofMW (Or.inl rfl) ⟨cp_X19, rfl⟩ (Nat.le_of_ble_eq_true rfl) ?_
  generalize eQ : (mRI fun v h' => (-1 ≤ v ∧ v ≤ 140) ∧ Only C19 h h' ∧ J19 h' cn ∧ Str t19 r19 h' : MO → MH → Prop) = Q
  change MW KX19_run Q 0 0 (pcA pgX19_run 0) [(0, (2, ((2514 : Nat) : Int))), (1, (0, t)), (2, (0, bw))] [] h
  refine hd_locI (i := 1) rfl (fun rt => ?_)
  refine hd_locI (i := 2) rfl (fun rbw => ?_)
  have oo : Only C19 h h := Only.refl _ _
  obtain ⟨tn, e7⟩ : ∃ x : Int, ga h 2514 7 = x := ⟨_, rfl⟩
  have tn6 : 0 ≤ tn ∧ tn ≤ 6 := by rw [← e7]; exact j19.1.2.1.1
  refine hd_aload pkX19_run rfl rfl (Int.natCast_nonneg _) ?_
  refine hd_iload pkX19_run rfl rfl ?_
  refine hd_callV pkX19_run rfl (q := (KX19_noTrain, yX19_noTrain, 19, 1, 0)) rfl rfl rfl (As := [(0, t)]) (rest := []) (c := 2514) rfl rfl (Nat.le_of_ble_eq_true rfl) (g.cell 0 rfl).1 (g.cell 0 rfl).2.1 (h_X19_noTrain (tn := ga h 2514 7) rfl g) (hd_bI (fun nt hc1 pn => ?_))
  obtain ⟨pn, ehc1⟩ := pn
  replace ehc1 := ehc1.symm
  subst ehc1
  refine hd_if_eq pkX19_run rfl (fun c2 => ?_) (fun c2 => ?_)
  · skip
    refine hd_aload pkX19_run rfl rfl (Int.natCast_nonneg _) ?_
    refine hd_callV pkX19_run rfl (q := (KX19_prepare, yX19_prepare, 19, 0, 0)) rfl rfl rfl (As := []) (rest := []) (c := 2514) rfl rfl (Nat.le_of_ble_eq_true rfl) (g.cell 0 rfl).1 (g.cell 0 rfl).2.1 (h_X19_prepare j19.1 j19.2 g) (hd_bV (fun hc3 pp => ?_))
    have ghc3 : Str t19 r19 hc3 := g.but pp.1 pp.2.1 (by decide)
    have bq := BQ.prep j19 pp.1 pp.2.1 pp.2.2.1 pp.2.2.2.1 pp.2.2.2.2
    have oo := oo.trans (pp.1.mono (by decide))
    have e7 := (pp.2.1 7 (by decide) (by decide)).trans e7
    refine hd_aload pkX19_run rfl rfl (Int.natCast_nonneg _) ?_
    refine hd_callV pkX19_run rfl (q := (KX19_forget, yX19_forget, 19, 0, 0)) rfl rfl rfl (As := []) (rest := []) (c := 2514) rfl rfl (Nat.le_of_ble_eq_true rfl) (ghc3.cell 0 rfl).1 (ghc3.cell 0 rfl).2.1 (h_X19_forget ghc3) (hd_bV (fun hc4 pf => ?_))
    have ghc4 : Str t19 r19 hc4 := pf.2.2.2.2
    have bq := bq.forget pf.1 pf.2.1 pf.2.2.1 pf.2.2.2.1
    have oo := oo.trans (pf.1.mono (by decide))
    have e7 := (pf.2.1 7 (by decide) (by decide) (by decide)).trans e7
    refine hd_aload pkX19_run rfl rfl (Int.natCast_nonneg _) ?_
    refine hd_iload pkX19_run rfl rfl ?_
    refine hd_putZ pkX19_run rfl (ghc4.cell 0 rfl).1 (ghc4.cell 0 rfl).2.1 (by omega) (fun hh5 ehh5 => ?_)
    have ghh5 : Str t19 r19 hh5 := by rw [ehh5]; exact ghc4.setF rfl
    have oo := oo.trans ((Only.wr ehh5).mono (by decide))
    have bq := bq.one ehh5 (by decide) (by decide)
    have e7 := ((ga_wr (j := 7) ehh5 (by decide) (by decide)).trans (if_neg (by decide))).trans e7
    refine hd_ipush (z := 0) pkX19_run rfl ?_
    refine hd_istore pkX19_run rfl rfl ?_
    change MW _ _ _ _ _ [(3, (0, 0)), (0, (2, ((2514 : Nat) : Int))), (1, (0, t)), (2, (0, bw))] _ _
    refine hd_ipush (z := 0) pkX19_run rfl ?_
    refine hd_istore pkX19_run rfl rfl ?_
    change MW _ _ _ _ _ [(4, (0, 0)), (3, (0, 0)), (0, (2, ((2514 : Nat) : Int))), (1, (0, t)), (2, (0, bw))] _ _
    have lp17 : ∀ (N17 : Nat) (al wy : Int) (hw : MH), Str t19 r19 hw → (Only C19 h hw) → (BQ hw cn) → (ga hw 2514 7 = tn) → (0 ≤ wy ∧ wy ≤ 2) → (0 ≤ al ∧ al ≤ 70 * wy) → (2 : Int) - wy < (N17 : Int) → MW KX19_run Q 0 0 (pcA pgX19_run 17) [(0, (2, ((2514 : Nat) : Int))), (1, (0, t)), (2, (0, bw)), (3, (0, al)), (4, (0, wy))] [] hw := by
      intro N17
      induction N17 with
      | zero => intro al wy hw g17 oo bq e7 wy0 al0 hm17; exfalso; omega
      | succ N17 ih17 =>
        intro al wy hw g17 oo bq e7 wy0 al0 hm17
        refine hd_iload pkX19_run rfl rfl ?_
        refine hd_ipush (z := 2) pkX19_run rfl ?_
        refine hd_ic_ge pkX19_run rfl (fun c6 => ?_) (fun c6 => ?_)
        · skip
          refine hd_aload pkX19_run rfl rfl (Int.natCast_nonneg _) ?_
          refine hd_dup pkX19_run rfl rfl ?_
          refine hd_getJ pkX19_run rfl (g17.cell 0 rfl).1 (g17.cell 0 rfl).2.1 (fun v7 ev7 rv7 => ?_)
          refine hd_iload pkX19_run rfl rfl ?_
          refine hd_i2l pkX19_run rfl ?_
          refine hd_laddW pkX19_run rfl ?_
          refine hd_putJ pkX19_run rfl (g17.cell 0 rfl).1 (g17.cell 0 rfl).2.1 (fun hh8 ehh8 => ?_)
          have ghh8 : Str t19 r19 hh8 := by rw [ehh8]; exact g17.setF rfl
          have oo := oo.trans ((Only.wr ehh8).mono (by decide))
          have bq := bq.one ehh8 (by decide) (by decide)
          have e7 := ((ga_wr (j := 7) ehh8 (by decide) (by decide)).trans (if_neg (by decide))).trans e7
          refine hd_iload pkX19_run rfl rfl ?_
          refine hd_iret pkX19_run rfl ?_
          subst eQ
          refine ⟨rfl, rfl, ?_, oo, bq.j, ghh8⟩
          show -1 ≤ (al : Int) ∧ (al : Int) ≤ 140
          omega
        · skip
          refine hd_iload pkX19_run rfl rfl ?_
          refine hd_if_eq pkX19_run rfl (fun c9 => ?_) (fun c9 => ?_)
          · skip
            refine hd_aload pkX19_run rfl rfl (Int.natCast_nonneg _) ?_
            refine hd_iload pkX19_run rfl rfl ?_
            have cut32 : ∀ (bk : Int), (bk = 0 ∨ bk = 1) → MW KX19_run Q 0 0 (pcA pgX19_run 32) [(0, (2, ((2514 : Nat) : Int))), (1, (0, t)), (2, (0, bw)), (3, (0, al)), (4, (0, wy))] [(0, bk), (0, t), (2, ((2514 : Nat) : Int))] hw := by
              intro bk bkv
              refine hd_callV pkX19_run rfl (q := (KX19_gather, yX19_gather, 19, 2, 0)) rfl rfl rfl (As := [(0, t), (0, bk)]) (rest := []) (c := 2514) rfl rfl (Nat.le_of_ble_eq_true rfl) (g17.cell 0 rfl).1 (g17.cell 0 rfl).2.1 (h_X19_gather ⟨by omega, by omega⟩ bq.1 g17) (hd_bV (fun hc10 pg => ?_))
              have ghc10 : Str t19 r19 hc10 := g17.but pg.1 pg.2.1 (by decide)
              have bq := bq.fl pg.1 (fun j q => pg.2.1 j (by omega) (by omega))
              have oo := oo.trans (pg.1.mono (by decide))
              have e7 := (pg.2.1 7 (by decide) (by decide)).trans e7
              obtain ⟨mn, e31, mn0, mn70, mp⟩ := pg.2.2
              refine hd_ipush (z := 0) pkX19_run rfl ?_
              refine hd_istore pkX19_run rfl rfl ?_
              change MW _ _ _ _ _ [(5, (0, 0)), (0, (2, ((2514 : Nat) : Int))), (1, (0, t)), (2, (0, bw)), (3, (0, al)), (4, (0, wy))] _ _
              have lp35 : ∀ (N35 : Nat) (k : Int) (hk : MH), Str t19 r19 hk → (Only C19 h hk) → (BQ hk cn) → (ga hk 2514 7 = tn) → (0 ≤ k ∧ k ≤ mn) → (ga hk 2514 31 = mn) → (∀ i : Int, 0 ≤ i → i < mn → -400 ≤ ga hk 2532 i ∧ ga hk 2532 i ≤ 800) → mn - k < (N35 : Int) → MW KX19_run Q 0 0 (pcA pgX19_run 35) [(0, (2, ((2514 : Nat) : Int))), (1, (0, t)), (2, (0, bw)), (3, (0, al)), (4, (0, wy)), (5, (0, k))] [] hk := by
                intro N35
                induction N35 with
                | zero => intro k hk g35 oo bq e7 k0 e31 mp hm35; exfalso; omega
                | succ N35 ih35 =>
                  intro k hk g35 oo bq e7 k0 e31 mp hm35
                  refine hd_iload pkX19_run rfl rfl ?_
                  refine hd_aload pkX19_run rfl rfl (Int.natCast_nonneg _) ?_
                  refine hd_getI pkX19_run rfl (g35.cell 0 rfl).1 (g35.cell 0 rfl).2.1 (fun v11 ev11 rv11 => ?_)
                  have qv11 : mn = v11 := by rw [ev11]; exact e31.symm
                  subst qv11
                  refine hd_ic_ge pkX19_run rfl (fun c12 => ?_) (fun c12 => ?_)
                  · skip
                    refine hd_iload pkX19_run rfl rfl ?_
                    refine hd_aload pkX19_run rfl rfl (Int.natCast_nonneg _) ?_
                    refine hd_getI pkX19_run rfl (g35.cell 0 rfl).1 (g35.cell 0 rfl).2.1 (fun v13 ev13 rv13 => ?_)
                    have qv13 : mn = v13 := by rw [ev13]; exact e31.symm
                    subst qv13
                    refine hd_iadd pkX19_run rfl (by omega) ?_
                    refine hd_istore pkX19_run rfl rfl ?_
                    change MW _ _ _ _ _ [(3, (0, (al + mn))), (0, (2, ((2514 : Nat) : Int))), (1, (0, t)), (2, (0, bw)), (4, (0, wy)), (5, (0, k))] _ _
                    refine hd_iinc (z := 1) pkX19_run rfl rfl (by omega) rfl ?_
                    change MW _ _ _ _ _ [(4, (0, (wy + 1))), (3, (0, (al + mn))), (0, (2, ((2514 : Nat) : Int))), (1, (0, t)), (2, (0, bw)), (5, (0, k))] _ _
                    refine hd_goto pkX19_run rfl ?_
                    refine m_sub [(0, (2, ((2514 : Nat) : Int))), (1, (0, t)), (2, (0, bw)), (3, (0, (al + mn))), (4, (0, (wy + 1)))] (List.forall_mem_cons.mpr ⟨rfl, List.forall_mem_cons.mpr ⟨rfl, List.forall_mem_cons.mpr ⟨rfl, List.forall_mem_cons.mpr ⟨rfl, List.forall_mem_cons.mpr ⟨rfl, fun _ h => absurd h List.not_mem_nil⟩⟩⟩⟩⟩) ?_
                    refine ih17  ((al + mn)) ((wy + 1)) hk g35 ?_ ?_ ?_ ?_ ?_ ?_
                    · exact oo
                    · exact bq
                    · exact e7
                    · omega
                    · omega
                    · omega
                  · skip
                    refine hd_aload pkX19_run rfl rfl (Int.natCast_nonneg _) ?_
                    refine hd_ipush (z := 15) pkX19_run rfl ?_
                    refine hd_lpush (z := 0) pkX19_run rfl ?_
                    refine hd_callV pkX19_run rfl (q := (KX19_small, yX19_small, 19, 2, 0)) rfl rfl rfl (As := [(0, 15), (1, 0)]) (rest := []) (c := 2514) rfl rfl (Nat.le_of_ble_eq_true rfl) (g35.cell 0 rfl).1 (g35.cell 0 rfl).2.1 (h_X19_small (by decide) (by decide) (by decide) g35) (hd_bV (fun hc14 ps => ?_))
                    have ghc14 : Str t19 r19 hc14 := g35.only ps.1.1 (by decide)
                    have bq := bq.ch ps.1 (by decide)
                    have oo := oo.trans (ps.1.1.mono (by decide))
                    have e7 := (ps.1.1.ga (d := 2514) (by decide) 7).trans e7
                    have e31 := (ps.1.1.ga (d := 2514) (by decide) 31).trans e31
                    have mp := fun (i : Int) (a : 0 ≤ i) (b : i < mn) => (by rw [ps.1.1.ga (d := 2532) (by decide)]; exact mp i a b : -400 ≤ ga hc14 2532 i ∧ ga hc14 2532 i ≤ 800)
                    have ne : Nx hc14 15 16 := ⟨0, nv_small ps, by decide +kernel⟩
                    refine hd_aload pkX19_run rfl rfl (Int.natCast_nonneg _) ?_
                    refine hd_iload pkX19_run rfl rfl ?_
                    refine hd_aload pkX19_run rfl rfl (Int.natCast_nonneg _) ?_
                    refine hd_getR (n := 2532) pkX19_run rfl (ghc14.cell 0 rfl).1 (ghc14.cell 0 rfl).2.1 (ghc14.ref 17 rfl) ?_
                    refine hd_iload pkX19_run rfl rfl ?_
                    refine hd_iald (n := 80) pkX19_run rfl (ghc14.cell 18 rfl) (by omega) (by omega) (fun v15 ev15 rv15 => ?_)
                    have pl9 : -400 ≤ v15 ∧ v15 ≤ 800 := by rw [ev15]; exact mp _ (by omega) (by omega)
                    have cut55 : ∀ (bk : Int), (bk = 0 ∨ bk = 1) → MW KX19_run Q 0 0 (pcA pgX19_run 55) [(0, (2, ((2514 : Nat) : Int))), (1, (0, t)), (2, (0, bw)), (3, (0, al)), (4, (0, wy)), (5, (0, k))] [(0, bk), (0, v15), (0, t), (2, ((2514 : Nat) : Int))] hc14 := by
                      intro bk bkv
                      refine hd_callV pkX19_run rfl (q := (KX19_addEffect, yX19_addEffect, 19, 3, 0)) rfl rfl rfl (As := [(0, t), (0, v15), (0, bk)]) (rest := []) (c := 2514) rfl rfl (Nat.le_of_ble_eq_true rfl) (ghc14.cell 0 rfl).1 (ghc14.cell 0 rfl).2.1 (h_X19_addEffect (m := 16) ⟨by omega, by omega⟩ ⟨by omega, by omega⟩ bq.1 bq.2.2.1 ne (by decide) ghc14) (hd_bV (fun hc16 pa => ?_))
                      have ghc16 : Str t19 r19 hc16 := ghc14.only pa.1.1 (by decide)
                      have bq := bq.ch pa.1 (by decide)
                      have oo := oo.trans (pa.1.1.mono (by decide))
                      have e7 := (pa.1.1.ga (d := 2514) (by decide) 7).trans e7
                      have e31 := (pa.1.1.ga (d := 2514) (by decide) 31).trans e31
                      have mp := fun (i : Int) (a : 0 ≤ i) (b : i < mn) => (by rw [pa.1.1.ga (d := 2532) (by decide)]; exact mp i a b : -400 ≤ ga hc16 2532 i ∧ ga hc16 2532 i ≤ 800)
                      have ne := pa.2
                      have cut64 : ∀ (_ : True), MW KX19_run Q 0 0 (pcA pgX19_run 64) [(0, (2, ((2514 : Nat) : Int))), (1, (0, t)), (2, (0, bw)), (3, (0, al)), (4, (0, wy)), (5, (0, k))] [] hc16 := by
                        intro _
                        refine hd_aload pkX19_run rfl rfl (Int.natCast_nonneg _) ?_
                        refine hd_iload pkX19_run rfl rfl ?_
                        refine hd_aload pkX19_run rfl rfl (Int.natCast_nonneg _) ?_
                        refine hd_getR (n := 2532) pkX19_run rfl (ghc16.cell 0 rfl).1 (ghc16.cell 0 rfl).2.1 (ghc16.ref 17 rfl) ?_
                        refine hd_iload pkX19_run rfl rfl ?_
                        refine hd_iald (n := 80) pkX19_run rfl (ghc16.cell 18 rfl) (by omega) (by omega) (fun v17 ev17 rv17 => ?_)
                        have pl9 : -400 ≤ v17 ∧ v17 ≤ 800 := by rw [ev17]; exact mp _ (by omega) (by omega)
                        have cut76 : ∀ (bk : Int), (bk = 0 ∨ bk = 1) → MW KX19_run Q 0 0 (pcA pgX19_run 76) [(0, (2, ((2514 : Nat) : Int))), (1, (0, t)), (2, (0, bw)), (3, (0, al)), (4, (0, wy)), (5, (0, k))] [(0, bk), (0, v17), (0, t), (2, ((2514 : Nat) : Int))] hc16 := by
                          intro bk bkv
                          refine hd_callV pkX19_run rfl (q := (KX19_keep, yX19_keep, 19, 3, 0)) rfl rfl rfl (As := [(0, t), (0, v17), (0, bk)]) (rest := []) (c := 2514) rfl rfl (Nat.le_of_ble_eq_true rfl) (ghc16.cell 0 rfl).1 (ghc16.cell 0 rfl).2.1 (h_X19_keep (by omega) bq (ne.up (by decide)) ⟨by omega, by omega⟩ ⟨by omega, by omega⟩ ghc16) (hd_bV (fun hc18 pk => ?_))
                          have ghc18 : Str t19 r19 hc18 := pk.2.2.2.2
                          have bq := pk.2.1
                          have oo := oo.trans (pk.1.mono (by decide))
                          have e7 := (pk.2.2.1 7 (by decide) (by decide) (by decide) (by decide) (by decide) (by decide)).trans e7
                          have e31 := (pk.2.2.1 31 (by decide) (by decide) (by decide) (by decide) (by decide) (by decide)).trans e31
                          have mp := fun (i : Int) (a : 0 ≤ i) (b : i < mn) => (by rw [pk.1.ga (d := 2532) (by decide)]; exact mp i a b : -400 ≤ ga hc18 2532 i ∧ ga hc18 2532 i ≤ 800)
                          refine hd_iinc (z := 1) pkX19_run rfl rfl (by omega) rfl ?_
                          change MW _ _ _ _ _ [(5, (0, (k + 1))), (0, (2, ((2514 : Nat) : Int))), (1, (0, t)), (2, (0, bw)), (3, (0, al)), (4, (0, wy))] _ _
                          refine hd_goto pkX19_run rfl ?_
                          refine m_sub [(0, (2, ((2514 : Nat) : Int))), (1, (0, t)), (2, (0, bw)), (3, (0, al)), (4, (0, wy)), (5, (0, (k + 1)))] (List.forall_mem_cons.mpr ⟨rfl, List.forall_mem_cons.mpr ⟨rfl, List.forall_mem_cons.mpr ⟨rfl, List.forall_mem_cons.mpr ⟨rfl, List.forall_mem_cons.mpr ⟨rfl, List.forall_mem_cons.mpr ⟨rfl, fun _ h => absurd h List.not_mem_nil⟩⟩⟩⟩⟩⟩) ?_
                          refine ih35  ((k + 1)) hc18 ghc18 ?_ ?_ ?_ ?_ ?_ ?_ ?_
                          · exact oo
                          · exact bq
                          · exact e7
                          · omega
                          · exact e31
                          · exact mp
                          · omega
                        refine hd_iload pkX19_run rfl rfl ?_
                        refine hd_ipush (z := 1) pkX19_run rfl ?_
                        refine hd_ic_ne pkX19_run rfl (fun c19 => ?_) (fun c19 => ?_)
                        · skip
                          refine hd_ipush (z := 0) pkX19_run rfl ?_
                          refine cut76 (0) ?_
                          · omega
                        · skip
                          refine hd_ipush (z := 1) pkX19_run rfl ?_
                          refine hd_goto pkX19_run rfl ?_
                          refine cut76 (1) ?_
                          · omega
                      refine hd_aload pkX19_run rfl rfl (Int.natCast_nonneg _) ?_
                      refine hd_getZ pkX19_run rfl (ghc16.cell 0 rfl).1 (ghc16.cell 0 rfl).2.1 (fun v20 ev20 rv20 => ?_)
                      obtain ⟨hv, qv20⟩ : ∃ x : Int, x = v20 := ⟨_, rfl⟩
                      have e13 : ga hc16 2514 13 = hv := by rw [qv20, ev20]; rfl
                      subst qv20
                      refine hd_if_eq pkX19_run rfl (fun c21 => ?_) (fun c21 => ?_)
                      · skip
                        refine cut64 trivial
                      · skip
                        refine hd_aload pkX19_run rfl rfl (Int.natCast_nonneg _) ?_
                        refine hd_ipush (z := 15) pkX19_run rfl ?_
                        refine hd_ipush (z := 16) pkX19_run rfl ?_
                        obtain ⟨xE, VE, bE⟩ := ne
                        have ne : Nx hc16 15 28 := ⟨xE, VE, PW_up bE (by decide)⟩
                        obtain ⟨xW, VW, bW⟩ := bq.2.2.2.2 (by omega)
                        refine hd_callV pkX19_run rfl (q := (KX19_order, yX19_order, 19, 2, 0)) rfl rfl rfl (As := [(0, 15), (0, 16)]) (rest := []) (c := 2514) rfl rfl (Nat.le_of_ble_eq_true rfl) (ghc16.cell 0 rfl).1 (ghc16.cell 0 rfl).2.1 (h_X19_order (by decide) (by decide) (by decide) (by decide) VE VW ghc16) (hd_bI (fun od hc22 po => ?_))
                        obtain ⟨po, ehc22⟩ := po
                        replace ehc22 := ehc22.symm
                        subst ehc22
                        refine hd_if_le pkX19_run rfl (fun c23 => ?_) (fun c23 => ?_)
                        · skip
                          refine hd_iinc (z := 1) pkX19_run rfl rfl (by omega) rfl ?_
                          change MW _ _ _ _ _ [(5, (0, (k + 1))), (0, (2, ((2514 : Nat) : Int))), (1, (0, t)), (2, (0, bw)), (3, (0, al)), (4, (0, wy))] _ _
                          refine hd_goto pkX19_run rfl ?_
                          refine m_sub [(0, (2, ((2514 : Nat) : Int))), (1, (0, t)), (2, (0, bw)), (3, (0, al)), (4, (0, wy)), (5, (0, (k + 1)))] (List.forall_mem_cons.mpr ⟨rfl, List.forall_mem_cons.mpr ⟨rfl, List.forall_mem_cons.mpr ⟨rfl, List.forall_mem_cons.mpr ⟨rfl, List.forall_mem_cons.mpr ⟨rfl, List.forall_mem_cons.mpr ⟨rfl, fun _ h => absurd h List.not_mem_nil⟩⟩⟩⟩⟩⟩) ?_
                          refine ih35  ((k + 1)) hc16 ghc16 ?_ ?_ ?_ ?_ ?_ ?_ ?_
                          · exact oo
                          · exact bq
                          · exact e7
                          · omega
                          · exact e31
                          · exact mp
                          · omega
                        · skip
                          refine cut64 trivial
                    refine hd_iload pkX19_run rfl rfl ?_
                    refine hd_ipush (z := 1) pkX19_run rfl ?_
                    refine hd_ic_ne pkX19_run rfl (fun c24 => ?_) (fun c24 => ?_)
                    · skip
                      refine hd_ipush (z := 0) pkX19_run rfl ?_
                      refine cut55 (0) ?_
                      · omega
                    · skip
                      refine hd_ipush (z := 1) pkX19_run rfl ?_
                      refine hd_goto pkX19_run rfl ?_
                      refine cut55 (1) ?_
                      · omega
              refine m_sub [(0, (2, ((2514 : Nat) : Int))), (1, (0, t)), (2, (0, bw)), (3, (0, al)), (4, (0, wy)), (5, (0, 0))] (List.forall_mem_cons.mpr ⟨rfl, List.forall_mem_cons.mpr ⟨rfl, List.forall_mem_cons.mpr ⟨rfl, List.forall_mem_cons.mpr ⟨rfl, List.forall_mem_cons.mpr ⟨rfl, List.forall_mem_cons.mpr ⟨rfl, fun _ h => absurd h List.not_mem_nil⟩⟩⟩⟩⟩⟩) ?_
              refine lp35 ((mn - (0)) + 1).toNat (0) hc10 ghc10 ?_ ?_ ?_ ?_ ?_ ?_ ?_
              · exact oo
              · exact bq
              · exact e7
              · omega
              · exact e31
              · exact mp
              · omega
            refine hd_iload pkX19_run rfl rfl ?_
            refine hd_ipush (z := 1) pkX19_run rfl ?_
            refine hd_ic_ne pkX19_run rfl (fun c25 => ?_) (fun c25 => ?_)
            · skip
              refine hd_ipush (z := 0) pkX19_run rfl ?_
              refine cut32 (0) ?_
              · omega
            · skip
              refine hd_ipush (z := 1) pkX19_run rfl ?_
              refine hd_goto pkX19_run rfl ?_
              refine cut32 (1) ?_
              · omega
          · skip
            refine hd_iload pkX19_run rfl rfl ?_
            refine hd_if_eq pkX19_run rfl (fun c26 => ?_) (fun c26 => ?_)
            · skip
              refine hd_iinc (z := 1) pkX19_run rfl rfl (by omega) rfl ?_
              change MW _ _ _ _ _ [(4, (0, (wy + 1))), (0, (2, ((2514 : Nat) : Int))), (1, (0, t)), (2, (0, bw)), (3, (0, al))] _ _
              refine hd_goto pkX19_run rfl ?_
              refine m_sub [(0, (2, ((2514 : Nat) : Int))), (1, (0, t)), (2, (0, bw)), (3, (0, al)), (4, (0, (wy + 1)))] (List.forall_mem_cons.mpr ⟨rfl, List.forall_mem_cons.mpr ⟨rfl, List.forall_mem_cons.mpr ⟨rfl, List.forall_mem_cons.mpr ⟨rfl, List.forall_mem_cons.mpr ⟨rfl, fun _ h => absurd h List.not_mem_nil⟩⟩⟩⟩⟩) ?_
              refine ih17  (al) ((wy + 1)) hw g17 ?_ ?_ ?_ ?_ ?_ ?_
              · exact oo
              · exact bq
              · exact e7
              · omega
              · omega
              · omega
            · skip
              refine hd_aload pkX19_run rfl rfl (Int.natCast_nonneg _) ?_
              refine hd_iload pkX19_run rfl rfl ?_
              have cut32 : ∀ (bk : Int), (bk = 0 ∨ bk = 1) → MW KX19_run Q 0 0 (pcA pgX19_run 32) [(0, (2, ((2514 : Nat) : Int))), (1, (0, t)), (2, (0, bw)), (3, (0, al)), (4, (0, wy))] [(0, bk), (0, t), (2, ((2514 : Nat) : Int))] hw := by
                intro bk bkv
                refine hd_callV pkX19_run rfl (q := (KX19_gather, yX19_gather, 19, 2, 0)) rfl rfl rfl (As := [(0, t), (0, bk)]) (rest := []) (c := 2514) rfl rfl (Nat.le_of_ble_eq_true rfl) (g17.cell 0 rfl).1 (g17.cell 0 rfl).2.1 (h_X19_gather ⟨by omega, by omega⟩ bq.1 g17) (hd_bV (fun hc27 pg => ?_))
                have ghc27 : Str t19 r19 hc27 := g17.but pg.1 pg.2.1 (by decide)
                have bq := bq.fl pg.1 (fun j q => pg.2.1 j (by omega) (by omega))
                have oo := oo.trans (pg.1.mono (by decide))
                have e7 := (pg.2.1 7 (by decide) (by decide)).trans e7
                obtain ⟨mn, e31, mn0, mn70, mp⟩ := pg.2.2
                refine hd_ipush (z := 0) pkX19_run rfl ?_
                refine hd_istore pkX19_run rfl rfl ?_
                change MW _ _ _ _ _ [(5, (0, 0)), (0, (2, ((2514 : Nat) : Int))), (1, (0, t)), (2, (0, bw)), (3, (0, al)), (4, (0, wy))] _ _
                have lp35 : ∀ (N35 : Nat) (k : Int) (hk : MH), Str t19 r19 hk → (Only C19 h hk) → (BQ hk cn) → (ga hk 2514 7 = tn) → (0 ≤ k ∧ k ≤ mn) → (ga hk 2514 31 = mn) → (∀ i : Int, 0 ≤ i → i < mn → -400 ≤ ga hk 2532 i ∧ ga hk 2532 i ≤ 800) → mn - k < (N35 : Int) → MW KX19_run Q 0 0 (pcA pgX19_run 35) [(0, (2, ((2514 : Nat) : Int))), (1, (0, t)), (2, (0, bw)), (3, (0, al)), (4, (0, wy)), (5, (0, k))] [] hk := by
                  intro N35
                  induction N35 with
                  | zero => intro k hk g35 oo bq e7 k0 e31 mp hm35; exfalso; omega
                  | succ N35 ih35 =>
                    intro k hk g35 oo bq e7 k0 e31 mp hm35
                    refine hd_iload pkX19_run rfl rfl ?_
                    refine hd_aload pkX19_run rfl rfl (Int.natCast_nonneg _) ?_
                    refine hd_getI pkX19_run rfl (g35.cell 0 rfl).1 (g35.cell 0 rfl).2.1 (fun v28 ev28 rv28 => ?_)
                    have qv28 : mn = v28 := by rw [ev28]; exact e31.symm
                    subst qv28
                    refine hd_ic_ge pkX19_run rfl (fun c29 => ?_) (fun c29 => ?_)
                    · skip
                      refine hd_iload pkX19_run rfl rfl ?_
                      refine hd_aload pkX19_run rfl rfl (Int.natCast_nonneg _) ?_
                      refine hd_getI pkX19_run rfl (g35.cell 0 rfl).1 (g35.cell 0 rfl).2.1 (fun v30 ev30 rv30 => ?_)
                      have qv30 : mn = v30 := by rw [ev30]; exact e31.symm
                      subst qv30
                      refine hd_iadd pkX19_run rfl (by omega) ?_
                      refine hd_istore pkX19_run rfl rfl ?_
                      change MW _ _ _ _ _ [(3, (0, (al + mn))), (0, (2, ((2514 : Nat) : Int))), (1, (0, t)), (2, (0, bw)), (4, (0, wy)), (5, (0, k))] _ _
                      refine hd_iinc (z := 1) pkX19_run rfl rfl (by omega) rfl ?_
                      change MW _ _ _ _ _ [(4, (0, (wy + 1))), (3, (0, (al + mn))), (0, (2, ((2514 : Nat) : Int))), (1, (0, t)), (2, (0, bw)), (5, (0, k))] _ _
                      refine hd_goto pkX19_run rfl ?_
                      refine m_sub [(0, (2, ((2514 : Nat) : Int))), (1, (0, t)), (2, (0, bw)), (3, (0, (al + mn))), (4, (0, (wy + 1)))] (List.forall_mem_cons.mpr ⟨rfl, List.forall_mem_cons.mpr ⟨rfl, List.forall_mem_cons.mpr ⟨rfl, List.forall_mem_cons.mpr ⟨rfl, List.forall_mem_cons.mpr ⟨rfl, fun _ h => absurd h List.not_mem_nil⟩⟩⟩⟩⟩) ?_
                      refine ih17  ((al + mn)) ((wy + 1)) hk g35 ?_ ?_ ?_ ?_ ?_ ?_
                      · exact oo
                      · exact bq
                      · exact e7
                      · omega
                      · omega
                      · omega
                    · skip
                      refine hd_aload pkX19_run rfl rfl (Int.natCast_nonneg _) ?_
                      refine hd_ipush (z := 15) pkX19_run rfl ?_
                      refine hd_lpush (z := 0) pkX19_run rfl ?_
                      refine hd_callV pkX19_run rfl (q := (KX19_small, yX19_small, 19, 2, 0)) rfl rfl rfl (As := [(0, 15), (1, 0)]) (rest := []) (c := 2514) rfl rfl (Nat.le_of_ble_eq_true rfl) (g35.cell 0 rfl).1 (g35.cell 0 rfl).2.1 (h_X19_small (by decide) (by decide) (by decide) g35) (hd_bV (fun hc31 ps => ?_))
                      have ghc31 : Str t19 r19 hc31 := g35.only ps.1.1 (by decide)
                      have bq := bq.ch ps.1 (by decide)
                      have oo := oo.trans (ps.1.1.mono (by decide))
                      have e7 := (ps.1.1.ga (d := 2514) (by decide) 7).trans e7
                      have e31 := (ps.1.1.ga (d := 2514) (by decide) 31).trans e31
                      have mp := fun (i : Int) (a : 0 ≤ i) (b : i < mn) => (by rw [ps.1.1.ga (d := 2532) (by decide)]; exact mp i a b : -400 ≤ ga hc31 2532 i ∧ ga hc31 2532 i ≤ 800)
                      have ne : Nx hc31 15 16 := ⟨0, nv_small ps, by decide +kernel⟩
                      refine hd_aload pkX19_run rfl rfl (Int.natCast_nonneg _) ?_
                      refine hd_iload pkX19_run rfl rfl ?_
                      refine hd_aload pkX19_run rfl rfl (Int.natCast_nonneg _) ?_
                      refine hd_getR (n := 2532) pkX19_run rfl (ghc31.cell 0 rfl).1 (ghc31.cell 0 rfl).2.1 (ghc31.ref 17 rfl) ?_
                      refine hd_iload pkX19_run rfl rfl ?_
                      refine hd_iald (n := 80) pkX19_run rfl (ghc31.cell 18 rfl) (by omega) (by omega) (fun v32 ev32 rv32 => ?_)
                      have pl9 : -400 ≤ v32 ∧ v32 ≤ 800 := by rw [ev32]; exact mp _ (by omega) (by omega)
                      have cut55 : ∀ (bk : Int), (bk = 0 ∨ bk = 1) → MW KX19_run Q 0 0 (pcA pgX19_run 55) [(0, (2, ((2514 : Nat) : Int))), (1, (0, t)), (2, (0, bw)), (3, (0, al)), (4, (0, wy)), (5, (0, k))] [(0, bk), (0, v32), (0, t), (2, ((2514 : Nat) : Int))] hc31 := by
                        intro bk bkv
                        refine hd_callV pkX19_run rfl (q := (KX19_addEffect, yX19_addEffect, 19, 3, 0)) rfl rfl rfl (As := [(0, t), (0, v32), (0, bk)]) (rest := []) (c := 2514) rfl rfl (Nat.le_of_ble_eq_true rfl) (ghc31.cell 0 rfl).1 (ghc31.cell 0 rfl).2.1 (h_X19_addEffect (m := 16) ⟨by omega, by omega⟩ ⟨by omega, by omega⟩ bq.1 bq.2.2.1 ne (by decide) ghc31) (hd_bV (fun hc33 pa => ?_))
                        have ghc33 : Str t19 r19 hc33 := ghc31.only pa.1.1 (by decide)
                        have bq := bq.ch pa.1 (by decide)
                        have oo := oo.trans (pa.1.1.mono (by decide))
                        have e7 := (pa.1.1.ga (d := 2514) (by decide) 7).trans e7
                        have e31 := (pa.1.1.ga (d := 2514) (by decide) 31).trans e31
                        have mp := fun (i : Int) (a : 0 ≤ i) (b : i < mn) => (by rw [pa.1.1.ga (d := 2532) (by decide)]; exact mp i a b : -400 ≤ ga hc33 2532 i ∧ ga hc33 2532 i ≤ 800)
                        have ne := pa.2
                        have cut64 : ∀ (_ : True), MW KX19_run Q 0 0 (pcA pgX19_run 64) [(0, (2, ((2514 : Nat) : Int))), (1, (0, t)), (2, (0, bw)), (3, (0, al)), (4, (0, wy)), (5, (0, k))] [] hc33 := by
                          intro _
                          refine hd_aload pkX19_run rfl rfl (Int.natCast_nonneg _) ?_
                          refine hd_iload pkX19_run rfl rfl ?_
                          refine hd_aload pkX19_run rfl rfl (Int.natCast_nonneg _) ?_
                          refine hd_getR (n := 2532) pkX19_run rfl (ghc33.cell 0 rfl).1 (ghc33.cell 0 rfl).2.1 (ghc33.ref 17 rfl) ?_
                          refine hd_iload pkX19_run rfl rfl ?_
                          refine hd_iald (n := 80) pkX19_run rfl (ghc33.cell 18 rfl) (by omega) (by omega) (fun v34 ev34 rv34 => ?_)
                          have pl9 : -400 ≤ v34 ∧ v34 ≤ 800 := by rw [ev34]; exact mp _ (by omega) (by omega)
                          have cut76 : ∀ (bk : Int), (bk = 0 ∨ bk = 1) → MW KX19_run Q 0 0 (pcA pgX19_run 76) [(0, (2, ((2514 : Nat) : Int))), (1, (0, t)), (2, (0, bw)), (3, (0, al)), (4, (0, wy)), (5, (0, k))] [(0, bk), (0, v34), (0, t), (2, ((2514 : Nat) : Int))] hc33 := by
                            intro bk bkv
                            refine hd_callV pkX19_run rfl (q := (KX19_keep, yX19_keep, 19, 3, 0)) rfl rfl rfl (As := [(0, t), (0, v34), (0, bk)]) (rest := []) (c := 2514) rfl rfl (Nat.le_of_ble_eq_true rfl) (ghc33.cell 0 rfl).1 (ghc33.cell 0 rfl).2.1 (h_X19_keep (by omega) bq (ne.up (by decide)) ⟨by omega, by omega⟩ ⟨by omega, by omega⟩ ghc33) (hd_bV (fun hc35 pk => ?_))
                            have ghc35 : Str t19 r19 hc35 := pk.2.2.2.2
                            have bq := pk.2.1
                            have oo := oo.trans (pk.1.mono (by decide))
                            have e7 := (pk.2.2.1 7 (by decide) (by decide) (by decide) (by decide) (by decide) (by decide)).trans e7
                            have e31 := (pk.2.2.1 31 (by decide) (by decide) (by decide) (by decide) (by decide) (by decide)).trans e31
                            have mp := fun (i : Int) (a : 0 ≤ i) (b : i < mn) => (by rw [pk.1.ga (d := 2532) (by decide)]; exact mp i a b : -400 ≤ ga hc35 2532 i ∧ ga hc35 2532 i ≤ 800)
                            refine hd_iinc (z := 1) pkX19_run rfl rfl (by omega) rfl ?_
                            change MW _ _ _ _ _ [(5, (0, (k + 1))), (0, (2, ((2514 : Nat) : Int))), (1, (0, t)), (2, (0, bw)), (3, (0, al)), (4, (0, wy))] _ _
                            refine hd_goto pkX19_run rfl ?_
                            refine m_sub [(0, (2, ((2514 : Nat) : Int))), (1, (0, t)), (2, (0, bw)), (3, (0, al)), (4, (0, wy)), (5, (0, (k + 1)))] (List.forall_mem_cons.mpr ⟨rfl, List.forall_mem_cons.mpr ⟨rfl, List.forall_mem_cons.mpr ⟨rfl, List.forall_mem_cons.mpr ⟨rfl, List.forall_mem_cons.mpr ⟨rfl, List.forall_mem_cons.mpr ⟨rfl, fun _ h => absurd h List.not_mem_nil⟩⟩⟩⟩⟩⟩) ?_
                            refine ih35  ((k + 1)) hc35 ghc35 ?_ ?_ ?_ ?_ ?_ ?_ ?_
                            · exact oo
                            · exact bq
                            · exact e7
                            · omega
                            · exact e31
                            · exact mp
                            · omega
                          refine hd_iload pkX19_run rfl rfl ?_
                          refine hd_ipush (z := 1) pkX19_run rfl ?_
                          refine hd_ic_ne pkX19_run rfl (fun c36 => ?_) (fun c36 => ?_)
                          · skip
                            refine hd_ipush (z := 0) pkX19_run rfl ?_
                            refine cut76 (0) ?_
                            · omega
                          · skip
                            refine hd_ipush (z := 1) pkX19_run rfl ?_
                            refine hd_goto pkX19_run rfl ?_
                            refine cut76 (1) ?_
                            · omega
                        refine hd_aload pkX19_run rfl rfl (Int.natCast_nonneg _) ?_
                        refine hd_getZ pkX19_run rfl (ghc33.cell 0 rfl).1 (ghc33.cell 0 rfl).2.1 (fun v37 ev37 rv37 => ?_)
                        obtain ⟨hv, qv37⟩ : ∃ x : Int, x = v37 := ⟨_, rfl⟩
                        have e13 : ga hc33 2514 13 = hv := by rw [qv37, ev37]; rfl
                        subst qv37
                        refine hd_if_eq pkX19_run rfl (fun c38 => ?_) (fun c38 => ?_)
                        · skip
                          refine cut64 trivial
                        · skip
                          refine hd_aload pkX19_run rfl rfl (Int.natCast_nonneg _) ?_
                          refine hd_ipush (z := 15) pkX19_run rfl ?_
                          refine hd_ipush (z := 16) pkX19_run rfl ?_
                          obtain ⟨xE, VE, bE⟩ := ne
                          have ne : Nx hc33 15 28 := ⟨xE, VE, PW_up bE (by decide)⟩
                          obtain ⟨xW, VW, bW⟩ := bq.2.2.2.2 (by omega)
                          refine hd_callV pkX19_run rfl (q := (KX19_order, yX19_order, 19, 2, 0)) rfl rfl rfl (As := [(0, 15), (0, 16)]) (rest := []) (c := 2514) rfl rfl (Nat.le_of_ble_eq_true rfl) (ghc33.cell 0 rfl).1 (ghc33.cell 0 rfl).2.1 (h_X19_order (by decide) (by decide) (by decide) (by decide) VE VW ghc33) (hd_bI (fun od hc39 po => ?_))
                          obtain ⟨po, ehc39⟩ := po
                          replace ehc39 := ehc39.symm
                          subst ehc39
                          refine hd_if_le pkX19_run rfl (fun c40 => ?_) (fun c40 => ?_)
                          · skip
                            refine hd_iinc (z := 1) pkX19_run rfl rfl (by omega) rfl ?_
                            change MW _ _ _ _ _ [(5, (0, (k + 1))), (0, (2, ((2514 : Nat) : Int))), (1, (0, t)), (2, (0, bw)), (3, (0, al)), (4, (0, wy))] _ _
                            refine hd_goto pkX19_run rfl ?_
                            refine m_sub [(0, (2, ((2514 : Nat) : Int))), (1, (0, t)), (2, (0, bw)), (3, (0, al)), (4, (0, wy)), (5, (0, (k + 1)))] (List.forall_mem_cons.mpr ⟨rfl, List.forall_mem_cons.mpr ⟨rfl, List.forall_mem_cons.mpr ⟨rfl, List.forall_mem_cons.mpr ⟨rfl, List.forall_mem_cons.mpr ⟨rfl, List.forall_mem_cons.mpr ⟨rfl, fun _ h => absurd h List.not_mem_nil⟩⟩⟩⟩⟩⟩) ?_
                            refine ih35  ((k + 1)) hc33 ghc33 ?_ ?_ ?_ ?_ ?_ ?_ ?_
                            · exact oo
                            · exact bq
                            · exact e7
                            · omega
                            · exact e31
                            · exact mp
                            · omega
                          · skip
                            refine cut64 trivial
                      refine hd_iload pkX19_run rfl rfl ?_
                      refine hd_ipush (z := 1) pkX19_run rfl ?_
                      refine hd_ic_ne pkX19_run rfl (fun c41 => ?_) (fun c41 => ?_)
                      · skip
                        refine hd_ipush (z := 0) pkX19_run rfl ?_
                        refine cut55 (0) ?_
                        · omega
                      · skip
                        refine hd_ipush (z := 1) pkX19_run rfl ?_
                        refine hd_goto pkX19_run rfl ?_
                        refine cut55 (1) ?_
                        · omega
                refine m_sub [(0, (2, ((2514 : Nat) : Int))), (1, (0, t)), (2, (0, bw)), (3, (0, al)), (4, (0, wy)), (5, (0, 0))] (List.forall_mem_cons.mpr ⟨rfl, List.forall_mem_cons.mpr ⟨rfl, List.forall_mem_cons.mpr ⟨rfl, List.forall_mem_cons.mpr ⟨rfl, List.forall_mem_cons.mpr ⟨rfl, List.forall_mem_cons.mpr ⟨rfl, fun _ h => absurd h List.not_mem_nil⟩⟩⟩⟩⟩⟩) ?_
                refine lp35 ((mn - (0)) + 1).toNat (0) hc27 ghc27 ?_ ?_ ?_ ?_ ?_ ?_ ?_
                · exact oo
                · exact bq
                · exact e7
                · omega
                · exact e31
                · exact mp
                · omega
              refine hd_iload pkX19_run rfl rfl ?_
              refine hd_ipush (z := 1) pkX19_run rfl ?_
              refine hd_ic_ne pkX19_run rfl (fun c42 => ?_) (fun c42 => ?_)
              · skip
                refine hd_ipush (z := 0) pkX19_run rfl ?_
                refine cut32 (0) ?_
                · omega
              · skip
                refine hd_ipush (z := 1) pkX19_run rfl ?_
                refine hd_goto pkX19_run rfl ?_
                refine cut32 (1) ?_
                · omega
    refine m_sub [(0, (2, ((2514 : Nat) : Int))), (1, (0, t)), (2, (0, bw)), (3, (0, 0)), (4, (0, 0))] (List.forall_mem_cons.mpr ⟨rfl, List.forall_mem_cons.mpr ⟨rfl, List.forall_mem_cons.mpr ⟨rfl, List.forall_mem_cons.mpr ⟨rfl, List.forall_mem_cons.mpr ⟨rfl, fun _ h => absurd h List.not_mem_nil⟩⟩⟩⟩⟩) ?_
    refine lp17 (((2 : Int) - (0)) + 1).toNat (0) (0) hh5 ghh5 ?_ ?_ ?_ ?_ ?_ ?_
    · exact oo
    · exact bq
    · exact e7
    · omega
    · omega
    · omega
  · skip
    refine hd_ipush (z := (-1)) pkX19_run rfl ?_
    refine hd_iret pkX19_run rfl ?_
    subst eQ
    refine ⟨rfl, rfl, ?_, oo, j19, g⟩
    show -1 ≤ ((-1) : Int) ∧ ((-1) : Int) ≤ 140
    omega
set_option maxRecDepth 20000 in
set_option maxHeartbeats 8000000 in
theorem h_X19_fatigue {h : MH} {t k part cn : Int} (j19 : J19 h cn) (g : Str t19 r19 h) : MCal KX19_fatigue yX19_fatigue 0 0 [(2, ((2514 : Nat) : Int)), (0, t), (0, k), (0, part)] h (mRL fun v h' => ((-2 ≤ v ∧ v < 1000000000000000000) ∧ (part = 1 → v ≠ 0) ∧ (part = -1 → 70 ≤ k → v = -2)) ∧ Only C19 h h' ∧ J19 h' cn ∧ Str t19 r19 h') := by
  refine MCal.ofMW (Or.inl rfl) ⟨cp_X19, rfl⟩ (Nat.le_of_ble_eq_true rfl) ?_
  generalize eQ : (mRL fun v h' => ((-2 ≤ v ∧ v < 1000000000000000000) ∧ (part = 1 → v ≠ 0) ∧ (part = -1 → 70 ≤ k → v = -2)) ∧ Only C19 h h' ∧ J19 h' cn ∧ Str t19 r19 h' : MO → MH → Prop) = Q
  change MW KX19_fatigue Q 0 0 (pcA pgX19_fatigue 0) [(0, (2, ((2514 : Nat) : Int))), (1, (0, t)), (2, (0, k)), (3, (0, part))] [] h
  refine hd_locI (i := 1) rfl (fun rt => ?_)
  refine hd_locI (i := 2) rfl (fun rk => ?_)
  refine hd_locI (i := 3) rfl (fun rpart => ?_)
  have oo : Only C19 h h := Only.refl _ _
  obtain ⟨tn, e7⟩ : ∃ x : Int, ga h 2514 7 = x := ⟨_, rfl⟩
  have tn6 : 0 ≤ tn ∧ tn ≤ 6 := by rw [← e7]; exact j19.1.2.1.1
  refine hd_aload pkX19_fatigue rfl rfl (Int.natCast_nonneg _) ?_
  have cut7 : ∀ (_ : True), MW KX19_fatigue Q 0 0 (pcA pgX19_fatigue 7) [(0, (2, ((2514 : Nat) : Int))), (1, (0, t)), (2, (0, k)), (3, (0, part))] [] h := by
    intro _
    refine hd_iload pkX19_fatigue rfl rfl ?_
    refine hd_callS pkX19_fatigue rfl (q := (KX19_none, yX19_none, 19, 1, 1)) rfl rfl rfl (As := [(0, part)]) (rest := []) rfl rfl (Nat.le_of_ble_eq_true rfl) rfl (h_X19_none g) (hd_bL (fun no hc1 pz => ?_))
    obtain ⟨pz, ehc1⟩ := pz
    replace ehc1 := ehc1.symm
    subst ehc1
    refine hd_lret pkX19_fatigue rfl ?_
    subst eQ
    refine ⟨rfl, rfl, ?_, oo, j19, g⟩
    show (-2 ≤ no ∧ no < _) ∧ (part = 1 → no ≠ 0) ∧ (part = -1 → 70 ≤ k → no = -2)
    rw [pz]
    split
    · exact ⟨by decide, fun q => by omega, fun _ _ => rfl⟩
    · exact ⟨by decide, fun _ => by decide, fun q _ => by omega⟩
  refine hd_iload pkX19_fatigue rfl rfl ?_
  refine hd_callV pkX19_fatigue rfl (q := (KX19_noTrain, yX19_noTrain, 19, 1, 0)) rfl rfl rfl (As := [(0, t)]) (rest := []) (c := 2514) rfl rfl (Nat.le_of_ble_eq_true rfl) (g.cell 0 rfl).1 (g.cell 0 rfl).2.1 (h_X19_noTrain (tn := ga h 2514 7) rfl g) (hd_bI (fun nt hc2 pn => ?_))
  obtain ⟨pn, ehc2⟩ := pn
  replace ehc2 := ehc2.symm
  subst ehc2
  refine hd_if_ne pkX19_fatigue rfl (fun c3 => ?_) (fun c3 => ?_)
  · skip
    refine cut7 trivial
  · skip
    refine hd_iload pkX19_fatigue rfl rfl ?_
    refine hd_ipush (z := (-1)) pkX19_fatigue rfl ?_
    refine hd_ic_ge pkX19_fatigue rfl (fun c4 => ?_) (fun c4 => ?_)
    · skip
      refine hd_aload pkX19_fatigue rfl rfl (Int.natCast_nonneg _) ?_
      refine hd_callV pkX19_fatigue rfl (q := (KX19_prepare, yX19_prepare, 19, 0, 0)) rfl rfl rfl (As := []) (rest := []) (c := 2514) rfl rfl (Nat.le_of_ble_eq_true rfl) (g.cell 0 rfl).1 (g.cell 0 rfl).2.1 (h_X19_prepare j19.1 j19.2 g) (hd_bV (fun hc5 pp => ?_))
      have ghc5 : Str t19 r19 hc5 := g.but pp.1 pp.2.1 (by decide)
      have bq := BQ.prep j19 pp.1 pp.2.1 pp.2.2.1 pp.2.2.2.1 pp.2.2.2.2
      have oo := oo.trans (pp.1.mono (by decide))
      have e7 := (pp.2.1 7 (by decide) (by decide)).trans e7
      refine hd_aload pkX19_fatigue rfl rfl (Int.natCast_nonneg _) ?_
      refine hd_iload pkX19_fatigue rfl rfl ?_
      refine hd_ipush (z := 0) pkX19_fatigue rfl ?_
      refine hd_callV pkX19_fatigue rfl (q := (KX19_gather, yX19_gather, 19, 2, 0)) rfl rfl rfl (As := [(0, t), (0, 0)]) (rest := []) (c := 2514) rfl rfl (Nat.le_of_ble_eq_true rfl) (ghc5.cell 0 rfl).1 (ghc5.cell 0 rfl).2.1 (h_X19_gather ⟨by omega, by omega⟩ bq.1 ghc5) (hd_bV (fun hc6 pg => ?_))
      have ghc6 : Str t19 r19 hc6 := ghc5.but pg.1 pg.2.1 (by decide)
      have bq := bq.fl pg.1 (fun j q => pg.2.1 j (by omega) (by omega))
      have oo := oo.trans (pg.1.mono (by decide))
      have e7 := (pg.2.1 7 (by decide) (by decide)).trans e7
      obtain ⟨mn, e31, mn0, mn70, mp⟩ := pg.2.2
      refine hd_iload pkX19_fatigue rfl rfl ?_
      refine hd_if_lt pkX19_fatigue rfl (fun c7 => ?_) (fun c7 => ?_)
      · skip
        refine hd_iload pkX19_fatigue rfl rfl ?_
        refine hd_callS pkX19_fatigue rfl (q := (KX19_none, yX19_none, 19, 1, 1)) rfl rfl rfl (As := [(0, part)]) (rest := []) rfl rfl (Nat.le_of_ble_eq_true rfl) rfl (h_X19_none ghc6) (hd_bL (fun no hc8 pz => ?_))
        obtain ⟨pz, ehc8⟩ := pz
        replace ehc8 := ehc8.symm
        subst ehc8
        refine hd_lret pkX19_fatigue rfl ?_
        subst eQ
        refine ⟨rfl, rfl, ?_, oo, bq.j, ghc6⟩
        show (-2 ≤ no ∧ no < _) ∧ (part = 1 → no ≠ 0) ∧ (part = -1 → 70 ≤ k → no = -2)
        rw [pz]
        split
        · exact ⟨by decide, fun q => by omega, fun _ _ => rfl⟩
        · exact ⟨by decide, fun _ => by decide, fun q _ => by omega⟩
      · skip
        refine hd_iload pkX19_fatigue rfl rfl ?_
        refine hd_aload pkX19_fatigue rfl rfl (Int.natCast_nonneg _) ?_
        refine hd_getI pkX19_fatigue rfl (ghc6.cell 0 rfl).1 (ghc6.cell 0 rfl).2.1 (fun v9 ev9 rv9 => ?_)
        have qv9 : mn = v9 := by rw [ev9]; exact e31.symm
        subst qv9
        refine hd_ic_lt pkX19_fatigue rfl (fun c10 => ?_) (fun c10 => ?_)
        · skip
          refine hd_aload pkX19_fatigue rfl rfl (Int.natCast_nonneg _) ?_
          refine hd_ipush (z := 15) pkX19_fatigue rfl ?_
          refine hd_lpush (z := 0) pkX19_fatigue rfl ?_
          refine hd_callV pkX19_fatigue rfl (q := (KX19_small, yX19_small, 19, 2, 0)) rfl rfl rfl (As := [(0, 15), (1, 0)]) (rest := []) (c := 2514) rfl rfl (Nat.le_of_ble_eq_true rfl) (ghc6.cell 0 rfl).1 (ghc6.cell 0 rfl).2.1 (h_X19_small (by decide) (by decide) (by decide) ghc6) (hd_bV (fun hc11 ps => ?_))
          have ghc11 : Str t19 r19 hc11 := ghc6.only ps.1.1 (by decide)
          have bq := bq.ch ps.1 (by decide)
          have oo := oo.trans (ps.1.1.mono (by decide))
          have e7 := (ps.1.1.ga (d := 2514) (by decide) 7).trans e7
          have e31 := (ps.1.1.ga (d := 2514) (by decide) 31).trans e31
          have mp := fun (i : Int) (a : 0 ≤ i) (b : i < mn) => (by rw [ps.1.1.ga (d := 2532) (by decide)]; exact mp i a b : -400 ≤ ga hc11 2532 i ∧ ga hc11 2532 i ≤ 800)
          have ne : Nx hc11 15 16 := ⟨0, nv_small ps, by decide +kernel⟩
          refine hd_aload pkX19_fatigue rfl rfl (Int.natCast_nonneg _) ?_
          refine hd_iload pkX19_fatigue rfl rfl ?_
          refine hd_aload pkX19_fatigue rfl rfl (Int.natCast_nonneg _) ?_
          refine hd_getR (n := 2532) pkX19_fatigue rfl (ghc11.cell 0 rfl).1 (ghc11.cell 0 rfl).2.1 (ghc11.ref 17 rfl) ?_
          refine hd_iload pkX19_fatigue rfl rfl ?_
          refine hd_iald (n := 80) pkX19_fatigue rfl (ghc11.cell 18 rfl) (by omega) (by omega) (fun v12 ev12 rv12 => ?_)
          have pl9 : -400 ≤ v12 ∧ v12 ≤ 800 := by rw [ev12]; exact mp _ (by omega) (by omega)
          refine hd_ipush (z := 0) pkX19_fatigue rfl ?_
          refine hd_callV pkX19_fatigue rfl (q := (KX19_addEffect, yX19_addEffect, 19, 3, 0)) rfl rfl rfl (As := [(0, t), (0, v12), (0, 0)]) (rest := []) (c := 2514) rfl rfl (Nat.le_of_ble_eq_true rfl) (ghc11.cell 0 rfl).1 (ghc11.cell 0 rfl).2.1 (h_X19_addEffect (m := 16) ⟨by omega, by omega⟩ ⟨by omega, by omega⟩ bq.1 bq.2.2.1 ne (by decide) ghc11) (hd_bV (fun hc13 pa => ?_))
          have ghc13 : Str t19 r19 hc13 := ghc11.only pa.1.1 (by decide)
          have bq := bq.ch pa.1 (by decide)
          have oo := oo.trans (pa.1.1.mono (by decide))
          have e7 := (pa.1.1.ga (d := 2514) (by decide) 7).trans e7
          have e31 := (pa.1.1.ga (d := 2514) (by decide) 31).trans e31
          have mp := fun (i : Int) (a : 0 ≤ i) (b : i < mn) => (by rw [pa.1.1.ga (d := 2532) (by decide)]; exact mp i a b : -400 ≤ ga hc13 2532 i ∧ ga hc13 2532 i ≤ 800)
          have ne := pa.2
          refine hd_aload pkX19_fatigue rfl rfl (Int.natCast_nonneg _) ?_
          refine hd_ipush (z := 15) pkX19_fatigue rfl ?_
          refine hd_iload pkX19_fatigue rfl rfl ?_
          refine hd_callV pkX19_fatigue rfl (q := (KX19_tell, yX19_tell, 19, 2, 0)) rfl rfl rfl (As := [(0, 15), (0, part)]) (rest := []) (c := 2514) rfl rfl (Nat.le_of_ble_eq_true rfl) (ghc13.cell 0 rfl).1 (ghc13.cell 0 rfl).2.1 (h_X19_tell (m := 21) (Or.inl rfl) bq.2.1 ne (by decide) ghc13) (hd_bL (fun tv hc14 pt => ?_))
          have ghc14 : Str t19 r19 hc14 := ghc13.only pt.1.1 (by decide)
          have bq := bq.ch pt.1 (by decide)
          have oo := oo.trans (pt.1.1.mono (by decide))
          refine hd_lret pkX19_fatigue rfl ?_
          subst eQ
          refine ⟨rfl, rfl, ?_, oo, bq.j, ghc14⟩
          show (-2 ≤ tv ∧ tv < _) ∧ (part = 1 → tv ≠ 0) ∧ (part = -1 → 70 ≤ k → tv = -2)
          exact ⟨by have := pt.2.1; omega, pt.2.2, fun _ w => by omega⟩
        · skip
          refine hd_iload pkX19_fatigue rfl rfl ?_
          refine hd_callS pkX19_fatigue rfl (q := (KX19_none, yX19_none, 19, 1, 1)) rfl rfl rfl (As := [(0, part)]) (rest := []) rfl rfl (Nat.le_of_ble_eq_true rfl) rfl (h_X19_none ghc6) (hd_bL (fun no hc15 pz => ?_))
          obtain ⟨pz, ehc15⟩ := pz
          replace ehc15 := ehc15.symm
          subst ehc15
          refine hd_lret pkX19_fatigue rfl ?_
          subst eQ
          refine ⟨rfl, rfl, ?_, oo, bq.j, ghc6⟩
          show (-2 ≤ no ∧ no < _) ∧ (part = 1 → no ≠ 0) ∧ (part = -1 → 70 ≤ k → no = -2)
          rw [pz]
          split
          · exact ⟨by decide, fun q => by omega, fun _ _ => rfl⟩
          · exact ⟨by decide, fun _ => by decide, fun q _ => by omega⟩
    · skip
      refine cut7 trivial
set_option maxRecDepth 20000 in
set_option maxHeartbeats 8000000 in
theorem h_X19_brake {h : MH} {t cn : Int} (j19 : J19 h cn) (g : Str t19 r19 h) : MCal KX19_brake yX19_brake 0 0 [(2, ((2514 : Nat) : Int)), (0, t)] h (mRL fun v h' => (-1 ≤ v ∧ v ≤ 5000000) ∧ Only C19 h h' ∧ J19 h' cn ∧ Str t19 r19 h') := by
  refine MCal.ofMW (Or.inl rfl) ⟨cp_X19, rfl⟩ (Nat.le_of_ble_eq_true rfl) ?_
  generalize eQ : (mRL fun v h' => (-1 ≤ v ∧ v ≤ 5000000) ∧ Only C19 h h' ∧ J19 h' cn ∧ Str t19 r19 h' : MO → MH → Prop) = Q
  change MW KX19_brake Q 0 0 (pcA pgX19_brake 0) [(0, (2, ((2514 : Nat) : Int))), (1, (0, t))] [] h
  refine hd_locI (i := 1) rfl (fun rt => ?_)
  have oo : Only C19 h h := Only.refl _ _
  obtain ⟨tn, e7⟩ : ∃ x : Int, ga h 2514 7 = x := ⟨_, rfl⟩
  have tn6 : 0 ≤ tn ∧ tn ≤ 6 := by rw [← e7]; exact j19.1.2.1.1
  refine hd_aload pkX19_brake rfl rfl (Int.natCast_nonneg _) ?_
  refine hd_iload pkX19_brake rfl rfl ?_
  refine hd_callV pkX19_brake rfl (q := (KX19_noTrain, yX19_noTrain, 19, 1, 0)) rfl rfl rfl (As := [(0, t)]) (rest := []) (c := 2514) rfl rfl (Nat.le_of_ble_eq_true rfl) (g.cell 0 rfl).1 (g.cell 0 rfl).2.1 (h_X19_noTrain (tn := ga h 2514 7) rfl g) (hd_bI (fun nt hc1 pn => ?_))
  obtain ⟨pn, ehc1⟩ := pn
  replace ehc1 := ehc1.symm
  subst ehc1
  refine hd_if_eq pkX19_brake rfl (fun c2 => ?_) (fun c2 => ?_)
  · skip
    refine hd_lpush (z := 0) pkX19_brake rfl ?_
    refine hd_lstore pkX19_brake rfl rfl ?_
    change MW _ _ _ _ _ [(2, (1, 0)), (0, (2, ((2514 : Nat) : Int))), (1, (0, t))] _ _
    have t6 : 0 ≤ t ∧ t < 6 := by omega
    obtain ⟨ax, hax⟩ : ∃ x : Int, x = ga h 2520 t := ⟨_, rfl⟩
    have axb : 0 ≤ ax ∧ ax ≤ 5 := by rw [hax]; exact (j19.1.2.1.2 t t6.1 t6.2).1
    refine hd_ipush (z := 5) pkX19_brake rfl ?_
    refine hd_iload pkX19_brake rfl rfl ?_
    refine hd_imul pkX19_brake rfl (by omega) ?_
    refine hd_istore pkX19_brake rfl rfl ?_
    change MW _ _ _ _ _ [(4, (0, (5 * t))), (2, (1, 0)), (0, (2, ((2514 : Nat) : Int))), (1, (0, t))] _ _
    have lp12 : ∀ (N12 : Nat) (al k : Int), (5 * t ≤ k ∧ k ≤ 5 * t + ax) → (0 ≤ al ∧ al ≤ 1000000 * (k - 5 * t)) → 5 * t + ax - k < (N12 : Int) → MW KX19_brake Q 0 0 (pcA pgX19_brake 12) [(0, (2, ((2514 : Nat) : Int))), (1, (0, t)), (2, (1, al)), (4, (0, k))] [] h := by
      intro N12
      induction N12 with
      | zero => intro al k k0 al0 hm12; exfalso; omega
      | succ N12 ih12 =>
        intro al k k0 al0 hm12
        refine hd_iload pkX19_brake rfl rfl ?_
        refine hd_ipush (z := 5) pkX19_brake rfl ?_
        refine hd_iload pkX19_brake rfl rfl ?_
        refine hd_imul pkX19_brake rfl (by omega) ?_
        refine hd_aload pkX19_brake rfl rfl (Int.natCast_nonneg _) ?_
        refine hd_getR (n := 2520) pkX19_brake rfl (g.cell 0 rfl).1 (g.cell 0 rfl).2.1 (g.ref 5 rfl) ?_
        refine hd_iload pkX19_brake rfl rfl ?_
        refine hd_iald (n := 6) pkX19_brake rfl (g.cell 6 rfl) (by omega) (by omega) (fun v3 ev3 rv3 => ?_)
        have qv3 : ax = v3 := by rw [ev3]; exact hax
        subst qv3
        refine hd_iadd pkX19_brake rfl (by omega) ?_
        refine hd_ic_ge pkX19_brake rfl (fun c4 => ?_) (fun c4 => ?_)
        · skip
          refine hd_lload pkX19_brake rfl rfl ?_
          refine hd_lpush (z := 4) pkX19_brake rfl ?_
          refine hd_ldiv pkX19_brake rfl (by omega) (by have := emod_of (x := al) (y := 4); have q := Int.tdiv_eq_ediv_of_nonneg (a := al) (b := 4) (by omega); rw [q]; omega) ?_
          refine hd_lret pkX19_brake rfl ?_
          subst eQ
          refine ⟨rfl, rfl, ?_, oo, j19, g⟩
          show -1 ≤ Int.tdiv al 4 ∧ Int.tdiv al 4 ≤ 5000000
          rw [Int.tdiv_eq_ediv_of_nonneg (by omega)]
          omega
        · skip
          refine hd_lload pkX19_brake rfl rfl ?_
          refine hd_aload pkX19_brake rfl rfl (Int.natCast_nonneg _) ?_
          refine hd_getR (n := 2522) pkX19_brake rfl (g.cell 0 rfl).1 (g.cell 0 rfl).2.1 (g.ref 7 rfl) ?_
          refine hd_iload pkX19_brake rfl rfl ?_
          refine hd_iald (n := 30) pkX19_brake rfl (g.cell 8 rfl) (by omega) (by omega) (fun v5 ev5 rv5 => ?_)
          have lb9 : 0 ≤ v5 ∧ v5 ≤ 1000000 := by
            rw [ev5]
            have q := (j19.1.2.1.2 t (by omega) (by omega)).2.2.2 (k - 5 * t) (by omega) (by rw [← hax]; omega)
            rw [show 5 * t + (k - 5 * t) = k by omega] at q
            exact q.2
          refine hd_i2l pkX19_brake rfl ?_
          refine hd_ladd pkX19_brake rfl (by omega) ?_
          refine hd_lstore pkX19_brake rfl rfl ?_
          change MW _ _ _ _ _ [(2, (1, (al + v5))), (0, (2, ((2514 : Nat) : Int))), (1, (0, t)), (4, (0, k))] _ _
          refine hd_iinc (z := 1) pkX19_brake rfl rfl (by omega) rfl ?_
          change MW _ _ _ _ _ [(4, (0, (k + 1))), (2, (1, (al + v5))), (0, (2, ((2514 : Nat) : Int))), (1, (0, t))] _ _
          refine hd_goto pkX19_brake rfl ?_
          refine m_sub [(0, (2, ((2514 : Nat) : Int))), (1, (0, t)), (2, (1, (al + v5))), (4, (0, (k + 1)))] (List.forall_mem_cons.mpr ⟨rfl, List.forall_mem_cons.mpr ⟨rfl, List.forall_mem_cons.mpr ⟨rfl, List.forall_mem_cons.mpr ⟨rfl, fun _ h => absurd h List.not_mem_nil⟩⟩⟩⟩) ?_
          refine ih12  ((al + v5)) ((k + 1)) ?_ ?_ ?_
          · omega
          · omega
          · omega
    refine m_sub [(0, (2, ((2514 : Nat) : Int))), (1, (0, t)), (2, (1, 0)), (4, (0, (5 * t)))] (List.forall_mem_cons.mpr ⟨rfl, List.forall_mem_cons.mpr ⟨rfl, List.forall_mem_cons.mpr ⟨rfl, List.forall_mem_cons.mpr ⟨rfl, fun _ h => absurd h List.not_mem_nil⟩⟩⟩⟩) ?_
    refine lp12 ((5 * t + ax - ((5 * t))) + 1).toNat (0) ((5 * t)) ?_ ?_ ?_
    · omega
    · omega
    · omega
  · skip
    refine hd_lpush (z := (-1)) pkX19_brake rfl ?_
    refine hd_lret pkX19_brake rfl ?_
    subst eQ
    refine ⟨rfl, rfl, ?_, oo, j19, g⟩
    show -1 ≤ (-1 : Int) ∧ (-1 : Int) ≤ 5000000
    decide
set_option maxRecDepth 20000 in
set_option maxHeartbeats 8000000 in
theorem h_X19_corners {h : MH} {cn : Int} (j19 : J19 h cn) (g : Str t19 r19 h) : MCal KX19_corners yX19_corners 0 0 [(2, ((2514 : Nat) : Int))] h (mRI fun v h' => (v = 0 ∨ v = 1) ∧ Only C19 h h' ∧ J19 h' cn ∧ Str t19 r19 h') := by
  refine MCal.ofMW (Or.inl rfl) ⟨cp_X19, rfl⟩ (Nat.le_of_ble_eq_true rfl) ?_
  generalize eQ : (mRI fun v h' => (v = 0 ∨ v = 1) ∧ Only C19 h h' ∧ J19 h' cn ∧ Str t19 r19 h' : MO → MH → Prop) = Q
  change MW KX19_corners Q 0 0 (pcA pgX19_corners 0) [(0, (2, ((2514 : Nat) : Int)))] [] h
  have oo : Only C19 h h := Only.refl _ _
  obtain ⟨tn, e7⟩ : ∃ x : Int, ga h 2514 7 = x := ⟨_, rfl⟩
  have tn6 : 0 ≤ tn ∧ tn ≤ 6 := by rw [← e7]; exact j19.1.2.1.1
  refine hd_aload pkX19_corners rfl rfl (Int.natCast_nonneg _) ?_
  refine hd_getZ pkX19_corners rfl (g.cell 0 rfl).1 (g.cell 0 rfl).2.1 (fun v1 ev1 rv1 => ?_)
  obtain ⟨hv, qv1⟩ : ∃ x : Int, x = v1 := ⟨_, rfl⟩
  have e13 : ga h 2514 13 = hv := by rw [qv1, ev1]; rfl
  subst qv1
  refine hd_if_eq pkX19_corners rfl (fun c2 => ?_) (fun c2 => ?_)
  · skip
    refine hd_ipush (z := 0) pkX19_corners rfl ?_
    refine hd_zret pkX19_corners rfl (by omega) ?_
    subst eQ
    exact ⟨rfl, rfl, Or.inl rfl, oo, j19, g⟩
  · skip
    refine hd_aload pkX19_corners rfl rfl (Int.natCast_nonneg _) ?_
    refine hd_getI pkX19_corners rfl (g.cell 0 rfl).1 (g.cell 0 rfl).2.1 (fun v3 ev3 rv3 => ?_)
    have q17 : v3 = ga h 2514 17 := ev3
    refine hd_ipush (z := (-1)) pkX19_corners rfl ?_
    refine hd_ic_eq pkX19_corners rfl (fun c4 => ?_) (fun c4 => ?_)
    · skip
      have n13 : ga h 2514 13 ≠ 0 := by omega
      have bq : BQ h cn := ⟨j19.1, (j19.2.1 (j19.2.2 n13).1).1, (j19.2.1 (j19.2.2 n13).1).2, (j19.2.2 n13).1, fun _ => (j19.2.2 n13).2⟩
      refine hd_ipush (z := 0) pkX19_corners rfl ?_
      refine hd_istore pkX19_corners rfl rfl ?_
      change MW _ _ _ _ _ [(1, (0, 0)), (0, (2, ((2514 : Nat) : Int)))] _ _
      have lp11 : ∀ (N11 : Nat) (wy : Int) (hw : MH), Str t19 r19 hw → (Only C19 h hw) → (BQ hw cn) → (ga hw 2514 7 = tn) → (ga hw 2514 13 ≠ 0) → (0 ≤ wy ∧ wy ≤ 2) → (2 : Int) - wy < (N11 : Int) → MW KX19_corners Q 0 0 (pcA pgX19_corners 11) [(0, (2, ((2514 : Nat) : Int))), (1, (0, wy))] [] hw := by
        intro N11
        induction N11 with
        | zero => intro wy hw g11 oo bq e7 n13 wy0 hm11; exfalso; omega
        | succ N11 ih11 =>
          intro wy hw g11 oo bq e7 n13 wy0 hm11
          refine hd_iload pkX19_corners rfl rfl ?_
          have cut18 : ∀ (wn : Int), (wn = 1 ∨ wn = 2) → MW KX19_corners Q 0 0 (pcA pgX19_corners 18) [(0, (2, ((2514 : Nat) : Int))), (1, (0, wy))] [(0, wn), (0, wy)] hw := by
            intro wn wnv
            refine hd_ic_ge pkX19_corners rfl (fun c5 => ?_) (fun c5 => ?_)
            · skip
              refine hd_ipush (z := 1) pkX19_corners rfl ?_
              refine hd_zret pkX19_corners rfl (by omega) ?_
              subst eQ
              exact ⟨rfl, rfl, Or.inr rfl, oo, bq.j, g11⟩
            · skip
              have cut24 : ∀ (s0 : Int), (s0 = 0 ∨ s0 = -300) → MW KX19_corners Q 0 0 (pcA pgX19_corners 24) [(0, (2, ((2514 : Nat) : Int))), (1, (0, wy))] [(0, s0)] hw := by
                intro s0 s0v
                refine hd_istore pkX19_corners rfl rfl ?_
                change MW _ _ _ _ _ [(2, (0, s0)), (0, (2, ((2514 : Nat) : Int))), (1, (0, wy))] _ _
                have lp25 : ∀ (N25 : Nat) (sp : Int) (hp : MH), Str t19 r19 hp → (Only C19 h hp) → (BQ hp cn) → (ga hp 2514 7 = tn) → (ga hp 2514 13 ≠ 0) → (-300 ≤ sp ∧ sp ≤ 701) → (701 : Int) - sp < (N25 : Int) → MW KX19_corners Q 0 0 (pcA pgX19_corners 25) [(0, (2, ((2514 : Nat) : Int))), (1, (0, wy)), (2, (0, sp))] [] hp := by
                  intro N25
                  induction N25 with
                  | zero => intro sp hp g25 oo bq e7 n13 sp0 hm25; exfalso; omega
                  | succ N25 ih25 =>
                    intro sp hp g25 oo bq e7 n13 sp0 hm25
                    refine hd_iload pkX19_corners rfl rfl ?_
                    have cut31 : ∀ (lim : Int), (lim = 700 ∨ lim = 400) → MW KX19_corners Q 0 0 (pcA pgX19_corners 31) [(0, (2, ((2514 : Nat) : Int))), (1, (0, wy)), (2, (0, sp))] [(0, lim), (0, sp)] hp := by
                      intro lim limv
                      refine hd_ic_gt pkX19_corners rfl (fun c6 => ?_) (fun c6 => ?_)
                      · skip
                        refine hd_iinc (z := 1) pkX19_corners rfl rfl (by omega) rfl ?_
                        change MW _ _ _ _ _ [(1, (0, (wy + 1))), (0, (2, ((2514 : Nat) : Int))), (2, (0, sp))] _ _
                        refine hd_goto pkX19_corners rfl ?_
                        refine m_sub [(0, (2, ((2514 : Nat) : Int))), (1, (0, (wy + 1)))] (List.forall_mem_cons.mpr ⟨rfl, List.forall_mem_cons.mpr ⟨rfl, fun _ h => absurd h List.not_mem_nil⟩⟩) ?_
                        refine ih11  ((wy + 1)) hp g25 ?_ ?_ ?_ ?_ ?_ ?_
                        · exact oo
                        · exact bq
                        · exact e7
                        · exact n13
                        · omega
                        · omega
                      · skip
                        refine hd_aload pkX19_corners rfl rfl (Int.natCast_nonneg _) ?_
                        refine hd_ipush (z := 15) pkX19_corners rfl ?_
                        refine hd_lpush (z := 0) pkX19_corners rfl ?_
                        refine hd_callV pkX19_corners rfl (q := (KX19_small, yX19_small, 19, 2, 0)) rfl rfl rfl (As := [(0, 15), (1, 0)]) (rest := []) (c := 2514) rfl rfl (Nat.le_of_ble_eq_true rfl) (g25.cell 0 rfl).1 (g25.cell 0 rfl).2.1 (h_X19_small (by decide) (by decide) (by decide) g25) (hd_bV (fun hc7 ps => ?_))
                        have ghc7 : Str t19 r19 hc7 := g25.only ps.1.1 (by decide)
                        have bq := bq.ch ps.1 (by decide)
                        have oo := oo.trans (ps.1.1.mono (by decide))
                        have e7 := (ps.1.1.ga (d := 2514) (by decide) 7).trans e7
                        have n13 : ga hc7 2514 13 ≠ 0 := by rw [ps.1.1.ga (d := 2514) (by decide)]; exact n13
                        have ne : Nx hc7 15 16 := ⟨0, nv_small ps, by decide +kernel⟩
                        refine hd_aload pkX19_corners rfl rfl (Int.natCast_nonneg _) ?_
                        refine hd_aload pkX19_corners rfl rfl (Int.natCast_nonneg _) ?_
                        refine hd_getI pkX19_corners rfl (ghc7.cell 0 rfl).1 (ghc7.cell 0 rfl).2.1 (fun v8 ev8 rv8 => ?_)
                        have wt : 0 ≤ v8 ∧ v8 < tn := by
                          have q := bq.1.2.2.2.2.1 n13
                          rw [e7] at q
                          rw [ev8]
                          exact q
                        refine hd_iload pkX19_corners rfl rfl ?_
                        have cut46 : ∀ (bk : Int), (bk = 0 ∨ bk = 1) → MW KX19_corners Q 0 0 (pcA pgX19_corners 46) [(0, (2, ((2514 : Nat) : Int))), (1, (0, wy)), (2, (0, sp))] [(0, bk), (0, sp), (0, v8), (2, ((2514 : Nat) : Int))] hc7 := by
                          intro bk bkv
                          refine hd_callV pkX19_corners rfl (q := (KX19_addEffect, yX19_addEffect, 19, 3, 0)) rfl rfl rfl (As := [(0, v8), (0, sp), (0, bk)]) (rest := []) (c := 2514) rfl rfl (Nat.le_of_ble_eq_true rfl) (ghc7.cell 0 rfl).1 (ghc7.cell 0 rfl).2.1 (h_X19_addEffect (m := 16) ⟨by omega, by omega⟩ ⟨by omega, by omega⟩ bq.1 bq.2.2.1 ne (by decide) ghc7) (hd_bV (fun hc9 pa => ?_))
                          have ghc9 : Str t19 r19 hc9 := ghc7.only pa.1.1 (by decide)
                          have bq := bq.ch pa.1 (by decide)
                          have oo := oo.trans (pa.1.1.mono (by decide))
                          have e7 := (pa.1.1.ga (d := 2514) (by decide) 7).trans e7
                          have n13 : ga hc9 2514 13 ≠ 0 := by rw [pa.1.1.ga (d := 2514) (by decide)]; exact n13
                          have ne := pa.2
                          refine hd_aload pkX19_corners rfl rfl (Int.natCast_nonneg _) ?_
                          refine hd_getR (n := 2516) pkX19_corners rfl (ghc9.cell 0 rfl).1 (ghc9.cell 0 rfl).2.1 (ghc9.ref 1 rfl) ?_
                          refine hd_ipush (z := 15) pkX19_corners rfl ?_
                          refine hd_iald (n := 30) pkX19_corners rfl (ghc9.cell 2 rfl) (by omega) (by omega) (fun v10 ev10 rv10 => ?_)
                          refine hd_if_eq pkX19_corners rfl (fun c11 => ?_) (fun c11 => ?_)
                          · skip
                            refine hd_iinc (z := 1) pkX19_corners rfl rfl (by omega) rfl ?_
                            change MW _ _ _ _ _ [(2, (0, (sp + 1))), (0, (2, ((2514 : Nat) : Int))), (1, (0, wy))] _ _
                            refine hd_goto pkX19_corners rfl ?_
                            refine m_sub [(0, (2, ((2514 : Nat) : Int))), (1, (0, wy)), (2, (0, (sp + 1)))] (List.forall_mem_cons.mpr ⟨rfl, List.forall_mem_cons.mpr ⟨rfl, List.forall_mem_cons.mpr ⟨rfl, fun _ h => absurd h List.not_mem_nil⟩⟩⟩) ?_
                            refine ih25  ((sp + 1)) hc9 ghc9 ?_ ?_ ?_ ?_ ?_ ?_
                            · exact oo
                            · exact bq
                            · exact e7
                            · exact n13
                            · omega
                            · omega
                          · skip
                            refine hd_aload pkX19_corners rfl rfl (Int.natCast_nonneg _) ?_
                            refine hd_ipush (z := 15) pkX19_corners rfl ?_
                            refine hd_ipush (z := 16) pkX19_corners rfl ?_
                            obtain ⟨xE, VE, bE⟩ := ne
                            obtain ⟨xW, VW, bW⟩ := bq.2.2.2.2 n13
                            refine hd_callV pkX19_corners rfl (q := (KX19_order, yX19_order, 19, 2, 0)) rfl rfl rfl (As := [(0, 15), (0, 16)]) (rest := []) (c := 2514) rfl rfl (Nat.le_of_ble_eq_true rfl) (ghc9.cell 0 rfl).1 (ghc9.cell 0 rfl).2.1 (h_X19_order (by decide) (by decide) (by decide) (by decide) VE VW ghc9) (hd_bI (fun od hc12 po => ?_))
                            obtain ⟨po, ehc12⟩ := po
                            replace ehc12 := ehc12.symm
                            subst ehc12
                            refine hd_if_le pkX19_corners rfl (fun c13 => ?_) (fun c13 => ?_)
                            · skip
                              refine hd_iinc (z := 1) pkX19_corners rfl rfl (by omega) rfl ?_
                              change MW _ _ _ _ _ [(2, (0, (sp + 1))), (0, (2, ((2514 : Nat) : Int))), (1, (0, wy))] _ _
                              refine hd_goto pkX19_corners rfl ?_
                              refine m_sub [(0, (2, ((2514 : Nat) : Int))), (1, (0, wy)), (2, (0, (sp + 1)))] (List.forall_mem_cons.mpr ⟨rfl, List.forall_mem_cons.mpr ⟨rfl, List.forall_mem_cons.mpr ⟨rfl, fun _ h => absurd h List.not_mem_nil⟩⟩⟩) ?_
                              refine ih25  ((sp + 1)) hc9 ghc9 ?_ ?_ ?_ ?_ ?_ ?_
                              · exact oo
                              · exact bq
                              · exact e7
                              · exact n13
                              · omega
                              · omega
                            · skip
                              refine hd_ipush (z := 0) pkX19_corners rfl ?_
                              refine hd_zret pkX19_corners rfl (by omega) ?_
                              subst eQ
                              exact ⟨rfl, rfl, Or.inl rfl, oo, bq.j, ghc9⟩
                        refine hd_iload pkX19_corners rfl rfl ?_
                        refine hd_ipush (z := 1) pkX19_corners rfl ?_
                        refine hd_ic_ne pkX19_corners rfl (fun c14 => ?_) (fun c14 => ?_)
                        · skip
                          refine hd_ipush (z := 0) pkX19_corners rfl ?_
                          refine cut46 (0) ?_
                          · omega
                        · skip
                          refine hd_ipush (z := 1) pkX19_corners rfl ?_
                          refine hd_goto pkX19_corners rfl ?_
                          refine cut46 (1) ?_
                          · omega
                    refine hd_iload pkX19_corners rfl rfl ?_
                    refine hd_if_ne pkX19_corners rfl (fun c15 => ?_) (fun c15 => ?_)
                    · skip
                      refine hd_ipush (z := 400) pkX19_corners rfl ?_
                      refine cut31 (400) ?_
                      · omega
                    · skip
                      refine hd_ipush (z := 700) pkX19_corners rfl ?_
                      refine hd_goto pkX19_corners rfl ?_
                      refine cut31 (700) ?_
                      · omega
                refine m_sub [(0, (2, ((2514 : Nat) : Int))), (1, (0, wy)), (2, (0, s0))] (List.forall_mem_cons.mpr ⟨rfl, List.forall_mem_cons.mpr ⟨rfl, List.forall_mem_cons.mpr ⟨rfl, fun _ h => absurd h List.not_mem_nil⟩⟩⟩) ?_
                refine lp25 (((701 : Int) - (s0)) + 1).toNat (s0) hw g11 ?_ ?_ ?_ ?_ ?_ ?_
                · exact oo
                · exact bq
                · exact e7
                · exact n13
                · omega
                · omega
              refine hd_iload pkX19_corners rfl rfl ?_
              refine hd_if_ne pkX19_corners rfl (fun c16 => ?_) (fun c16 => ?_)
              · skip
                refine hd_ipush (z := (-300)) pkX19_corners rfl ?_
                refine cut24 ((-300)) ?_
                · omega
              · skip
                refine hd_ipush (z := 0) pkX19_corners rfl ?_
                refine hd_goto pkX19_corners rfl ?_
                refine cut24 (0) ?_
                · omega
          refine hd_aload pkX19_corners rfl rfl (Int.natCast_nonneg _) ?_
          refine hd_getZ pkX19_corners rfl (g11.cell 0 rfl).1 (g11.cell 0 rfl).2.1 (fun v17 ev17 rv17 => ?_)
          refine hd_if_eq pkX19_corners rfl (fun c18 => ?_) (fun c18 => ?_)
          · skip
            refine hd_ipush (z := 1) pkX19_corners rfl ?_
            refine cut18 (1) ?_
            · omega
          · skip
            refine hd_ipush (z := 2) pkX19_corners rfl ?_
            refine hd_goto pkX19_corners rfl ?_
            refine cut18 (2) ?_
            · omega
      refine m_sub [(0, (2, ((2514 : Nat) : Int))), (1, (0, 0))] (List.forall_mem_cons.mpr ⟨rfl, List.forall_mem_cons.mpr ⟨rfl, fun _ h => absurd h List.not_mem_nil⟩⟩) ?_
      refine lp11 (((2 : Int) - (0)) + 1).toNat (0) h g ?_ ?_ ?_ ?_ ?_ ?_
      · exact oo
      · exact bq
      · exact e7
      · exact n13
      · omega
      · omega
    · skip
      refine hd_ipush (z := 0) pkX19_corners rfl ?_
      refine hd_zret pkX19_corners rfl (by omega) ?_
      subst eQ
      exact ⟨rfl, rfl, Or.inl rfl, oo, j19, g⟩
