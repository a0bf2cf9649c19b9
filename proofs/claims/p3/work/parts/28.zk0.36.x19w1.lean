set_option maxRecDepth 20000 in
set_option maxHeartbeats 8000000 in
theorem h_X19_between {h : MH} {a b cn : Int} (j19 : J19 h cn) (g : Str t19 r19 h) : MCal KX19_between yX19_between 0 0 [(2, ((2514 : Nat) : Int)), (0, a), (0, b)] h (mRI fun v h' => (-1 ≤ v ∧ v ≤ 22000) ∧ Only C19 h h' ∧ J19 h' cn ∧ Str t19 r19 h') := by
  refine MCal.ofMW (Or.inl rfl) ⟨cp_X19, rfl⟩ (Nat.le_of_ble_eq_true rfl) ?_
  generalize eQ : (mRI fun v h' => (-1 ≤ v ∧ v ≤ 22000) ∧ Only C19 h h' ∧ J19 h' cn ∧ Str t19 r19 h' : MO → MH → Prop) = Q
  change MW KX19_between Q 0 0 (pcA pgX19_between 0) [(0, (2, ((2514 : Nat) : Int))), (1, (0, a)), (2, (0, b))] [] h
  refine hd_locI (i := 1) rfl (fun ra => ?_)
  refine hd_locI (i := 2) rfl (fun rb => ?_)
  have oo : Only C19 h h := Only.refl _ _
  obtain ⟨tn, e7⟩ : ∃ x : Int, ga h 2514 7 = x := ⟨_, rfl⟩
  have tn6 : 0 ≤ tn ∧ tn ≤ 6 := by rw [← e7]; exact j19.1.2.1.1
  have cb0 := j19.1.1.2.1
  refine hd_aload pkX19_between rfl rfl (Int.natCast_nonneg _) ?_
  have cut8 : ∀ (_ : True), MW KX19_between Q 0 0 (pcA pgX19_between 8) [(0, (2, ((2514 : Nat) : Int))), (1, (0, a)), (2, (0, b))] [] h := by
    intro _
    refine hd_ipush (z := (-1)) pkX19_between rfl ?_
    refine hd_iret pkX19_between rfl ?_
    subst eQ
    refine ⟨rfl, rfl, ?_, oo, j19, g⟩
    show -1 ≤ ((-1) : Int) ∧ ((-1) : Int) ≤ 22000
    omega
  refine hd_iload pkX19_between rfl rfl ?_
  refine hd_callV pkX19_between rfl (q := (KX19_noTrain, yX19_noTrain, 19, 1, 0)) rfl rfl rfl (As := [(0, a)]) (rest := []) (c := 2514) rfl rfl (Nat.le_of_ble_eq_true rfl) (g.cell 0 rfl).1 (g.cell 0 rfl).2.1 (h_X19_noTrain (tn := ga h 2514 7) rfl g) (hd_bI (fun nt hc1 pn => ?_))
  obtain ⟨pn, ehc1⟩ := pn
  replace ehc1 := ehc1.symm
  subst ehc1
  refine hd_if_ne pkX19_between rfl (fun c2 => ?_) (fun c2 => ?_)
  · skip
    refine cut8 trivial
  · skip
    refine hd_aload pkX19_between rfl rfl (Int.natCast_nonneg _) ?_
    refine hd_iload pkX19_between rfl rfl ?_
    refine hd_callV pkX19_between rfl (q := (KX19_noTrain, yX19_noTrain, 19, 1, 0)) rfl rfl rfl (As := [(0, b)]) (rest := []) (c := 2514) rfl rfl (Nat.le_of_ble_eq_true rfl) (g.cell 0 rfl).1 (g.cell 0 rfl).2.1 (h_X19_noTrain (tn := ga h 2514 7) rfl g) (hd_bI (fun nt hc3 pn => ?_))
    obtain ⟨pn, ehc3⟩ := pn
    replace ehc3 := ehc3.symm
    subst ehc3
    refine hd_if_eq pkX19_between rfl (fun c4 => ?_) (fun c4 => ?_)
    · skip
      refine hd_aload pkX19_between rfl rfl (Int.natCast_nonneg _) ?_
      refine hd_callV pkX19_between rfl (q := (KX19_prepare, yX19_prepare, 19, 0, 0)) rfl rfl rfl (As := []) (rest := []) (c := 2514) rfl rfl (Nat.le_of_ble_eq_true rfl) (g.cell 0 rfl).1 (g.cell 0 rfl).2.1 (h_X19_prepare j19.1 j19.2 g) (hd_bV (fun hc5 pp => ?_))
      have ghc5 : Str t19 r19 hc5 := g.but pp.1 pp.2.1 (by decide)
      have bq := BQ.prep j19 pp.1 pp.2.1 pp.2.2.1 pp.2.2.2.1 pp.2.2.2.2
      have oo := oo.trans (pp.1.mono (by decide))
      have e7 := (pp.2.1 7 (by decide) (by decide)).trans e7
      refine hd_aload pkX19_between rfl rfl (Int.natCast_nonneg _) ?_
      refine hd_iload pkX19_between rfl rfl ?_
      refine hd_ipush (z := 0) pkX19_between rfl ?_
      refine hd_callV pkX19_between rfl (q := (KX19_gather, yX19_gather, 19, 2, 0)) rfl rfl rfl (As := [(0, a), (0, 0)]) (rest := []) (c := 2514) rfl rfl (Nat.le_of_ble_eq_true rfl) (ghc5.cell 0 rfl).1 (ghc5.cell 0 rfl).2.1 (h_X19_gather ⟨by omega, by omega⟩ bq.1 ghc5) (hd_bV (fun hc6 pg => ?_))
      have ghc6 : Str t19 r19 hc6 := ghc5.but pg.1 pg.2.1 (by decide)
      have bq := bq.fl pg.1 (fun j q => pg.2.1 j (by omega) (by omega))
      have oo := oo.trans (pg.1.mono (by decide))
      have e7 := (pg.2.1 7 (by decide) (by decide)).trans e7
      obtain ⟨mn, e31, mn0, mn70, mp⟩ := pg.2.2
      refine hd_aload pkX19_between rfl rfl (Int.natCast_nonneg _) ?_
      refine hd_getI pkX19_between rfl (ghc6.cell 0 rfl).1 (ghc6.cell 0 rfl).2.1 (fun v7 ev7 rv7 => ?_)
      have qv7 : mn = v7 := by rw [ev7]; exact e31.symm
      subst qv7
      refine hd_if_ne pkX19_between rfl (fun c8 => ?_) (fun c8 => ?_)
      · skip
        refine hd_aload pkX19_between rfl rfl (Int.natCast_nonneg _) ?_
        refine hd_callV pkX19_between rfl (q := (KX19_forget, yX19_forget, 19, 0, 0)) rfl rfl rfl (As := []) (rest := []) (c := 2514) rfl rfl (Nat.le_of_ble_eq_true rfl) (ghc6.cell 0 rfl).1 (ghc6.cell 0 rfl).2.1 (h_X19_forget ghc6) (hd_bV (fun hc9 pf => ?_))
        have ghc9 : Str t19 r19 hc9 := pf.2.2.2.2
        have bq := bq.forget pf.1 pf.2.1 pf.2.2.1 pf.2.2.2.1
        have oo := oo.trans (pf.1.mono (by decide))
        have e7 := (pf.2.1 7 (by decide) (by decide) (by decide)).trans e7
        have e31 := (pf.2.1 31 (by decide) (by decide) (by decide)).trans e31
        have mp := fun (i : Int) (a : 0 ≤ i) (b : i < mn) => (by rw [pf.1.ga (d := 2532) (by decide)]; exact mp i a b : -400 ≤ ga hc9 2532 i ∧ ga hc9 2532 i ≤ 800)
        have cut43 : ∀ (lg : Int), (0 ≤ lg ∧ lg ≤ 240) → MW KX19_between Q 0 0 (pcA pgX19_between 43) [(0, (2, ((2514 : Nat) : Int))), (1, (0, a)), (2, (0, b))] [(0, lg)] hc9 := by
          intro lg lgv
          refine hd_istore pkX19_between rfl rfl ?_
          change MW _ _ _ _ _ [(3, (0, lg)), (0, (2, ((2514 : Nat) : Int))), (1, (0, a)), (2, (0, b))] _ _
          refine hd_ipush (z := 0) pkX19_between rfl ?_
          refine hd_istore pkX19_between rfl rfl ?_
          change MW _ _ _ _ _ [(4, (0, 0)), (3, (0, lg)), (0, (2, ((2514 : Nat) : Int))), (1, (0, a)), (2, (0, b))] _ _
          refine hd_ipush (z := 0) pkX19_between rfl ?_
          refine hd_istore pkX19_between rfl rfl ?_
          change MW _ _ _ _ _ [(5, (0, 0)), (4, (0, 0)), (3, (0, lg)), (0, (2, ((2514 : Nat) : Int))), (1, (0, a)), (2, (0, b))] _ _
          have lp48 : ∀ (N48 : Nat) (al k : Int) (hk : MH), Str t19 r19 hk → (Only C19 h hk) → (BQ hk cn) → (ga hk 2514 7 = tn) → (ga hk 2514 31 = mn) → (∀ i : Int, 0 ≤ i → i < mn → -400 ≤ ga hk 2532 i ∧ ga hk 2532 i ≤ 800) → (0 ≤ k ∧ k ≤ mn) → (0 ≤ al ∧ al ≤ 301 * k) → mn - k < (N48 : Int) → MW KX19_between Q 0 0 (pcA pgX19_between 48) [(0, (2, ((2514 : Nat) : Int))), (1, (0, a)), (2, (0, b)), (3, (0, lg)), (4, (0, al)), (5, (0, k))] [] hk := by
            intro N48
            induction N48 with
            | zero => intro al k hk g48 oo bq e7 e31 mp k0 al0 hm48; exfalso; omega
            | succ N48 ih48 =>
              intro al k hk g48 oo bq e7 e31 mp k0 al0 hm48
              refine hd_iload pkX19_between rfl rfl ?_
              refine hd_aload pkX19_between rfl rfl (Int.natCast_nonneg _) ?_
              refine hd_getI pkX19_between rfl (g48.cell 0 rfl).1 (g48.cell 0 rfl).2.1 (fun v10 ev10 rv10 => ?_)
              have qv10 : mn = v10 := by rw [ev10]; exact e31.symm
              subst qv10
              refine hd_ic_ge pkX19_between rfl (fun c11 => ?_) (fun c11 => ?_)
              · skip
                refine hd_aload pkX19_between rfl rfl (Int.natCast_nonneg _) ?_
                refine hd_dup pkX19_between rfl rfl ?_
                refine hd_getJ pkX19_between rfl (g48.cell 0 rfl).1 (g48.cell 0 rfl).2.1 (fun v12 ev12 rv12 => ?_)
                refine hd_iload pkX19_between rfl rfl ?_
                refine hd_i2l pkX19_between rfl ?_
                refine hd_laddW pkX19_between rfl ?_
                refine hd_putJ pkX19_between rfl (g48.cell 0 rfl).1 (g48.cell 0 rfl).2.1 (fun hh13 ehh13 => ?_)
                have ghh13 : Str t19 r19 hh13 := by rw [ehh13]; exact g48.setF rfl
                have oo := oo.trans ((Only.wr ehh13).mono (by decide))
                have bq := bq.one ehh13 (by decide) (by decide)
                have e7 := ((ga_wr (j := 7) ehh13 (by decide) (by decide)).trans (if_neg (by decide))).trans e7
                refine hd_iload pkX19_between rfl rfl ?_
                refine hd_iret pkX19_between rfl ?_
                subst eQ
                refine ⟨rfl, rfl, ?_, oo, bq.j, ghh13⟩
                show -1 ≤ (al : Int) ∧ (al : Int) ≤ 22000
                omega
              · skip
                refine hd_aload pkX19_between rfl rfl (Int.natCast_nonneg _) ?_
                refine hd_getR (n := 2523) pkX19_between rfl (g48.cell 0 rfl).1 (g48.cell 0 rfl).2.1 (g48.ref 8 rfl) ?_
                refine hd_iload pkX19_between rfl rfl ?_
                refine hd_iald (n := 6) pkX19_between rfl (g48.cell 9 rfl) (by omega) (by omega) (fun v14 ev14 rv14 => ?_)
                have ls9 : 0 ≤ v14 ∧ v14 ≤ 300 := by rw [ev14]; exact (bq.1.2.1.2 b (by omega) (by omega)).2.1
                refine hd_istore pkX19_between rfl rfl ?_
                change MW _ _ _ _ _ [(6, (0, v14)), (0, (2, ((2514 : Nat) : Int))), (1, (0, a)), (2, (0, b)), (3, (0, lg)), (4, (0, al)), (5, (0, k))] _ _
                have lp57 : ∀ (N57 : Nat) (al gp : Int) (hg : MH), Str t19 r19 hg → (Only C19 h hg) → (BQ hg cn) → (ga hg 2514 7 = tn) → (ga hg 2514 31 = mn) → (∀ i : Int, 0 ≤ i → i < mn → -400 ≤ ga hg 2532 i ∧ ga hg 2532 i ≤ 800) → (0 ≤ gp ∧ gp ≤ 301) → (0 ≤ al ∧ al ≤ 301 * k + gp) → (301 : Int) - gp < (N57 : Int) → MW KX19_between Q 0 0 (pcA pgX19_between 57) [(0, (2, ((2514 : Nat) : Int))), (1, (0, a)), (2, (0, b)), (3, (0, lg)), (4, (0, al)), (5, (0, k)), (6, (0, gp))] [] hg := by
                  intro N57
                  induction N57 with
                  | zero => intro al gp hg g57 oo bq e7 e31 mp g0 al1 hm57; exfalso; omega
                  | succ N57 ih57 =>
                    intro al gp hg g57 oo bq e7 e31 mp g0 al1 hm57
                    refine hd_iload pkX19_between rfl rfl ?_
                    refine hd_aload pkX19_between rfl rfl (Int.natCast_nonneg _) ?_
                    refine hd_getR (n := 2524) pkX19_between rfl (g57.cell 0 rfl).1 (g57.cell 0 rfl).2.1 (g57.ref 9 rfl) ?_
                    refine hd_iload pkX19_between rfl rfl ?_
                    refine hd_iald (n := 6) pkX19_between rfl (g57.cell 10 rfl) (by omega) (by omega) (fun v15 ev15 rv15 => ?_)
                    have ms9 : 0 ≤ v15 ∧ v15 ≤ 300 := by rw [ev15]; exact (bq.1.2.1.2 b (by omega) (by omega)).2.2.1
                    refine hd_ic_gt pkX19_between rfl (fun c16 => ?_) (fun c16 => ?_)
                    · skip
                      refine hd_iinc (z := 1) pkX19_between rfl rfl (by omega) rfl ?_
                      change MW _ _ _ _ _ [(5, (0, (k + 1))), (0, (2, ((2514 : Nat) : Int))), (1, (0, a)), (2, (0, b)), (3, (0, lg)), (4, (0, al)), (6, (0, gp))] _ _
                      refine hd_goto pkX19_between rfl ?_
                      refine m_sub [(0, (2, ((2514 : Nat) : Int))), (1, (0, a)), (2, (0, b)), (3, (0, lg)), (4, (0, al)), (5, (0, (k + 1)))] (List.forall_mem_cons.mpr ⟨rfl, List.forall_mem_cons.mpr ⟨rfl, List.forall_mem_cons.mpr ⟨rfl, List.forall_mem_cons.mpr ⟨rfl, List.forall_mem_cons.mpr ⟨rfl, List.forall_mem_cons.mpr ⟨rfl, fun _ h => absurd h List.not_mem_nil⟩⟩⟩⟩⟩⟩) ?_
                      refine ih48  (al) ((k + 1)) hg g57 ?_ ?_ ?_ ?_ ?_ ?_ ?_ ?_
                      · exact oo
                      · exact bq
                      · exact e7
                      · exact e31
                      · exact mp
                      · omega
                      · omega
                      · omega
                    · skip
                      refine hd_aload pkX19_between rfl rfl (Int.natCast_nonneg _) ?_
                      refine hd_getR (n := 2532) pkX19_between rfl (g57.cell 0 rfl).1 (g57.cell 0 rfl).2.1 (g57.ref 17 rfl) ?_
                      refine hd_iload pkX19_between rfl rfl ?_
                      refine hd_iald (n := 80) pkX19_between rfl (g57.cell 18 rfl) (by omega) (by omega) (fun v17 ev17 rv17 => ?_)
                      have pl9 : -400 ≤ v17 ∧ v17 ≤ 800 := by rw [ev17]; exact mp _ (by omega) (by omega)
                      have pl8 := pl9
                      refine hd_iload pkX19_between rfl rfl ?_
                      refine hd_isub pkX19_between rfl (by omega) ?_
                      refine hd_iload pkX19_between rfl rfl ?_
                      refine hd_isub pkX19_between rfl (by omega) ?_
                      refine hd_istore pkX19_between rfl rfl ?_
                      change MW _ _ _ _ _ [(7, (0, ((v17 - lg) - gp))), (0, (2, ((2514 : Nat) : Int))), (1, (0, a)), (2, (0, b)), (3, (0, lg)), (4, (0, al)), (5, (0, k)), (6, (0, gp))] _ _
                      have cut87 : ∀ (i8 : Int), (i8 = 0 ∨ i8 = 1) → MW KX19_between Q 0 0 (pcA pgX19_between 87) [(0, (2, ((2514 : Nat) : Int))), (1, (0, a)), (2, (0, b)), (3, (0, lg)), (4, (0, al)), (5, (0, k)), (6, (0, gp)), (7, (0, ((v17 - lg) - gp)))] [(0, i8)] hg := by
                        intro i8 i8v
                        refine hd_istore pkX19_between rfl rfl ?_
                        change MW _ _ _ _ _ [(8, (0, i8)), (0, (2, ((2514 : Nat) : Int))), (1, (0, a)), (2, (0, b)), (3, (0, lg)), (4, (0, al)), (5, (0, k)), (6, (0, gp)), (7, (0, ((v17 - lg) - gp)))] _ _
                        obtain ⟨a2, ea2⟩ : ∃ x : Int, x = ga hg 2520 b := ⟨_, rfl⟩
                        have a25 : 0 ≤ a2 ∧ a2 ≤ 5 := by rw [ea2]; exact (bq.1.2.1.2 b (by omega) (by omega)).1
                        refine hd_ipush (z := 5) pkX19_between rfl ?_
                        refine hd_iload pkX19_between rfl rfl ?_
                        refine hd_imul pkX19_between rfl (by omega) ?_
                        refine hd_istore pkX19_between rfl rfl ?_
                        change MW _ _ _ _ _ [(9, (0, (5 * b))), (8, (0, i8)), (0, (2, ((2514 : Nat) : Int))), (1, (0, a)), (2, (0, b)), (3, (0, lg)), (4, (0, al)), (5, (0, k)), (6, (0, gp)), (7, (0, ((v17 - lg) - gp)))] _ _
                        have lp92 : ∀ (N92 : Nat) (iv i : Int), (5 * b ≤ i ∧ i ≤ 5 * b + a2) → (iv = 0 ∨ iv = 1) → 5 * b + a2 - i < (N92 : Int) → MW KX19_between Q 0 0 (pcA pgX19_between 92) [(0, (2, ((2514 : Nat) : Int))), (1, (0, a)), (2, (0, b)), (3, (0, lg)), (4, (0, al)), (5, (0, k)), (6, (0, gp)), (7, (0, ((v17 - lg) - gp))), (8, (0, iv)), (9, (0, i))] [] hg := by
                          intro N92
                          induction N92 with
                          | zero => intro iv i i0 ivv hm92; exfalso; omega
                          | succ N92 ih92 =>
                            intro iv i i0 ivv hm92
                            refine hd_iload pkX19_between rfl rfl ?_
                            refine hd_ipush (z := 5) pkX19_between rfl ?_
                            refine hd_iload pkX19_between rfl rfl ?_
                            refine hd_imul pkX19_between rfl (by omega) ?_
                            refine hd_aload pkX19_between rfl rfl (Int.natCast_nonneg _) ?_
                            refine hd_getR (n := 2520) pkX19_between rfl (g57.cell 0 rfl).1 (g57.cell 0 rfl).2.1 (g57.ref 5 rfl) ?_
                            refine hd_iload pkX19_between rfl rfl ?_
                            refine hd_iald (n := 6) pkX19_between rfl (g57.cell 6 rfl) (by omega) (by omega) (fun v18 ev18 rv18 => ?_)
                            have qv18 : a2 = v18 := by rw [ev18]; exact ea2
                            subst qv18
                            refine hd_iadd pkX19_between rfl (by omega) ?_
                            refine hd_ic_ge pkX19_between rfl (fun c19 => ?_) (fun c19 => ?_)
                            · skip
                              refine hd_iload pkX19_between rfl rfl ?_
                              refine hd_if_eq pkX19_between rfl (fun c20 => ?_) (fun c20 => ?_)
                              · skip
                                refine hd_iinc (z := 1) pkX19_between rfl rfl (by omega) rfl ?_
                                change MW _ _ _ _ _ [(6, (0, (gp + 1))), (0, (2, ((2514 : Nat) : Int))), (1, (0, a)), (2, (0, b)), (3, (0, lg)), (4, (0, al)), (5, (0, k)), (7, (0, ((v17 - lg) - gp))), (8, (0, iv)), (9, (0, i))] _ _
                                refine hd_goto pkX19_between rfl ?_
                                refine m_sub [(0, (2, ((2514 : Nat) : Int))), (1, (0, a)), (2, (0, b)), (3, (0, lg)), (4, (0, al)), (5, (0, k)), (6, (0, (gp + 1)))] (List.forall_mem_cons.mpr ⟨rfl, List.forall_mem_cons.mpr ⟨rfl, List.forall_mem_cons.mpr ⟨rfl, List.forall_mem_cons.mpr ⟨rfl, List.forall_mem_cons.mpr ⟨rfl, List.forall_mem_cons.mpr ⟨rfl, List.forall_mem_cons.mpr ⟨rfl, fun _ h => absurd h List.not_mem_nil⟩⟩⟩⟩⟩⟩⟩) ?_
                                refine ih57  (al) ((gp + 1)) hg g57 ?_ ?_ ?_ ?_ ?_ ?_ ?_ ?_
                                · exact oo
                                · exact bq
                                · exact e7
                                · exact e31
                                · exact mp
                                · omega
                                · omega
                                · omega
                              · skip
                                refine hd_iinc (z := 1) pkX19_between rfl rfl (by omega) rfl ?_
                                change MW _ _ _ _ _ [(4, (0, (al + 1))), (0, (2, ((2514 : Nat) : Int))), (1, (0, a)), (2, (0, b)), (3, (0, lg)), (5, (0, k)), (6, (0, gp)), (7, (0, ((v17 - lg) - gp))), (8, (0, iv)), (9, (0, i))] _ _
                                refine hd_aload pkX19_between rfl rfl (Int.natCast_nonneg _) ?_
                                refine hd_ipush (z := 15) pkX19_between rfl ?_
                                refine hd_lpush (z := 0) pkX19_between rfl ?_
                                refine hd_callV pkX19_between rfl (q := (KX19_small, yX19_small, 19, 2, 0)) rfl rfl rfl (As := [(0, 15), (1, 0)]) (rest := []) (c := 2514) rfl rfl (Nat.le_of_ble_eq_true rfl) (g57.cell 0 rfl).1 (g57.cell 0 rfl).2.1 (h_X19_small (by decide) (by decide) (by decide) g57) (hd_bV (fun hc21 ps => ?_))
                                have ghc21 : Str t19 r19 hc21 := g57.only ps.1.1 (by decide)
                                have bq := bq.ch ps.1 (by decide)
                                have oo := oo.trans (ps.1.1.mono (by decide))
                                have e7 := (ps.1.1.ga (d := 2514) (by decide) 7).trans e7
                                have e31 := (ps.1.1.ga (d := 2514) (by decide) 31).trans e31
                                have mp := fun (i : Int) (a : 0 ≤ i) (b : i < mn) => (by rw [ps.1.1.ga (d := 2532) (by decide)]; exact mp i a b : -400 ≤ ga hc21 2532 i ∧ ga hc21 2532 i ≤ 800)
                                have ne : Nx hc21 15 16 := ⟨0, nv_small ps, by decide +kernel⟩
                                refine hd_aload pkX19_between rfl rfl (Int.natCast_nonneg _) ?_
                                refine hd_iload pkX19_between rfl rfl ?_
                                refine hd_aload pkX19_between rfl rfl (Int.natCast_nonneg _) ?_
                                refine hd_getR (n := 2532) pkX19_between rfl (ghc21.cell 0 rfl).1 (ghc21.cell 0 rfl).2.1 (ghc21.ref 17 rfl) ?_
                                refine hd_iload pkX19_between rfl rfl ?_
                                refine hd_iald (n := 80) pkX19_between rfl (ghc21.cell 18 rfl) (by omega) (by omega) (fun v22 ev22 rv22 => ?_)
                                have pl9 : -400 ≤ v22 ∧ v22 ≤ 800 := by rw [ev22]; exact mp _ (by omega) (by omega)
                                refine hd_ipush (z := 0) pkX19_between rfl ?_
                                refine hd_callV pkX19_between rfl (q := (KX19_addEffect, yX19_addEffect, 19, 3, 0)) rfl rfl rfl (As := [(0, a), (0, v22), (0, 0)]) (rest := []) (c := 2514) rfl rfl (Nat.le_of_ble_eq_true rfl) (ghc21.cell 0 rfl).1 (ghc21.cell 0 rfl).2.1 (h_X19_addEffect (m := 16) ⟨by omega, by omega⟩ ⟨by omega, by omega⟩ bq.1 bq.2.2.1 ne (by decide) ghc21) (hd_bV (fun hc23 pa => ?_))
                                have ghc23 : Str t19 r19 hc23 := ghc21.only pa.1.1 (by decide)
                                have bq := bq.ch pa.1 (by decide)
                                have oo := oo.trans (pa.1.1.mono (by decide))
                                have e7 := (pa.1.1.ga (d := 2514) (by decide) 7).trans e7
                                have e31 := (pa.1.1.ga (d := 2514) (by decide) 31).trans e31
                                have mp := fun (i : Int) (a : 0 ≤ i) (b : i < mn) => (by rw [pa.1.1.ga (d := 2532) (by decide)]; exact mp i a b : -400 ≤ ga hc23 2532 i ∧ ga hc23 2532 i ≤ 800)
                                have ne := pa.2
                                refine hd_aload pkX19_between rfl rfl (Int.natCast_nonneg _) ?_
                                refine hd_iload pkX19_between rfl rfl ?_
                                refine hd_iload pkX19_between rfl rfl ?_
                                refine hd_ipush (z := 0) pkX19_between rfl ?_
                                refine hd_callV pkX19_between rfl (q := (KX19_addEffect, yX19_addEffect, 19, 3, 0)) rfl rfl rfl (As := [(0, b), (0, ((v17 - lg) - gp)), (0, 0)]) (rest := []) (c := 2514) rfl rfl (Nat.le_of_ble_eq_true rfl) (ghc23.cell 0 rfl).1 (ghc23.cell 0 rfl).2.1 (h_X19_addEffect (m := 21) ⟨by omega, by omega⟩ ⟨by omega, by omega⟩ bq.1 bq.2.2.1 ne (by decide) ghc23) (hd_bV (fun hc24 pa => ?_))
                                have ghc24 : Str t19 r19 hc24 := ghc23.only pa.1.1 (by decide)
                                have bq := bq.ch pa.1 (by decide)
                                have oo := oo.trans (pa.1.1.mono (by decide))
                                have e7 := (pa.1.1.ga (d := 2514) (by decide) 7).trans e7
                                have e31 := (pa.1.1.ga (d := 2514) (by decide) 31).trans e31
                                have mp := fun (i : Int) (a : 0 ≤ i) (b : i < mn) => (by rw [pa.1.1.ga (d := 2532) (by decide)]; exact mp i a b : -400 ≤ ga hc24 2532 i ∧ ga hc24 2532 i ≤ 800)
                                have ne := pa.2
                                have cut157 : ∀ (_ : True), MW KX19_between Q 0 0 (pcA pgX19_between 157) [(0, (2, ((2514 : Nat) : Int))), (1, (0, a)), (2, (0, b)), (3, (0, lg)), (4, (0, (al + 1))), (5, (0, k)), (6, (0, gp)), (7, (0, ((v17 - lg) - gp))), (8, (0, iv)), (9, (0, i))] [] hc24 := by
                                  intro _
                                  refine hd_aload pkX19_between rfl rfl (Int.natCast_nonneg _) ?_
                                  refine hd_iload pkX19_between rfl rfl ?_
                                  refine hd_aload pkX19_between rfl rfl (Int.natCast_nonneg _) ?_
                                  refine hd_getR (n := 2532) pkX19_between rfl (ghc24.cell 0 rfl).1 (ghc24.cell 0 rfl).2.1 (ghc24.ref 17 rfl) ?_
                                  refine hd_iload pkX19_between rfl rfl ?_
                                  refine hd_iald (n := 80) pkX19_between rfl (ghc24.cell 18 rfl) (by omega) (by omega) (fun v25 ev25 rv25 => ?_)
                                  have pl9 : -400 ≤ v25 ∧ v25 ≤ 800 := by rw [ev25]; exact mp _ (by omega) (by omega)
                                  refine hd_ipush (z := 0) pkX19_between rfl ?_
                                  refine hd_callV pkX19_between rfl (q := (KX19_keep, yX19_keep, 19, 3, 0)) rfl rfl rfl (As := [(0, a), (0, v25), (0, 0)]) (rest := []) (c := 2514) rfl rfl (Nat.le_of_ble_eq_true rfl) (ghc24.cell 0 rfl).1 (ghc24.cell 0 rfl).2.1 (h_X19_keep (by omega) bq (ne.up (by decide)) ⟨by omega, by omega⟩ ⟨by omega, by omega⟩ ghc24) (hd_bV (fun hc26 pk => ?_))
                                  have ghc26 : Str t19 r19 hc26 := pk.2.2.2.2
                                  have bq := pk.2.1
                                  have oo := oo.trans (pk.1.mono (by decide))
                                  have e7 := (pk.2.2.1 7 (by decide) (by decide) (by decide) (by decide) (by decide) (by decide)).trans e7
                                  have e31 := (pk.2.2.1 31 (by decide) (by decide) (by decide) (by decide) (by decide) (by decide)).trans e31
                                  have mp := fun (i : Int) (a : 0 ≤ i) (b : i < mn) => (by rw [pk.1.ga (d := 2532) (by decide)]; exact mp i a b : -400 ≤ ga hc26 2532 i ∧ ga hc26 2532 i ≤ 800)
                                  refine hd_aload pkX19_between rfl rfl (Int.natCast_nonneg _) ?_
                                  refine hd_iload pkX19_between rfl rfl ?_
                                  refine hd_putI pkX19_between rfl (ghc26.cell 0 rfl).1 (ghc26.cell 0 rfl).2.1 (fun hh27 ehh27 => ?_)
                                  have ghh27 : Str t19 r19 hh27 := by rw [ehh27]; exact ghc26.setF rfl
                                  have oo := oo.trans ((Only.wr ehh27).mono (by decide))
                                  have bq := bq.sec ehh27 ⟨by omega, by omega⟩
                                  have e7 := ((ga_wr (j := 7) ehh27 (by decide) (by decide)).trans (if_neg (by decide))).trans e7
                                  have e31 := ((ga_wr (j := 31) ehh27 (by decide) (by decide)).trans (if_neg (by decide))).trans e31
                                  have mp := fun (i : Int) (a : 0 ≤ i) (b : i < mn) => (by rw [(Only.wr ehh27).ga (d := 2532) (by decide)]; exact mp i a b : -400 ≤ ga hh27 2532 i ∧ ga hh27 2532 i ≤ 800)
                                  refine hd_aload pkX19_between rfl rfl (Int.natCast_nonneg _) ?_
                                  refine hd_iload pkX19_between rfl rfl ?_
                                  refine hd_putI pkX19_between rfl (ghh27.cell 0 rfl).1 (ghh27.cell 0 rfl).2.1 (fun hh28 ehh28 => ?_)
                                  have ghh28 : Str t19 r19 hh28 := by rw [ehh28]; exact ghh27.setF rfl
                                  have oo := oo.trans ((Only.wr ehh28).mono (by decide))
                                  have bq := bq.one ehh28 (by decide) (by decide)
                                  have e7 := ((ga_wr (j := 7) ehh28 (by decide) (by decide)).trans (if_neg (by decide))).trans e7
                                  have e31 := ((ga_wr (j := 31) ehh28 (by decide) (by decide)).trans (if_neg (by decide))).trans e31
                                  have mp := fun (i : Int) (a : 0 ≤ i) (b : i < mn) => (by rw [(Only.wr ehh28).ga (d := 2532) (by decide)]; exact mp i a b : -400 ≤ ga hh28 2532 i ∧ ga hh28 2532 i ≤ 800)
                                  refine hd_iinc (z := 1) pkX19_between rfl rfl (by omega) rfl ?_
                                  change MW _ _ _ _ _ [(6, (0, (gp + 1))), (0, (2, ((2514 : Nat) : Int))), (1, (0, a)), (2, (0, b)), (3, (0, lg)), (4, (0, (al + 1))), (5, (0, k)), (7, (0, ((v17 - lg) - gp))), (8, (0, iv)), (9, (0, i))] _ _
                                  refine hd_goto pkX19_between rfl ?_
                                  refine m_sub [(0, (2, ((2514 : Nat) : Int))), (1, (0, a)), (2, (0, b)), (3, (0, lg)), (4, (0, (al + 1))), (5, (0, k)), (6, (0, (gp + 1)))] (List.forall_mem_cons.mpr ⟨rfl, List.forall_mem_cons.mpr ⟨rfl, List.forall_mem_cons.mpr ⟨rfl, List.forall_mem_cons.mpr ⟨rfl, List.forall_mem_cons.mpr ⟨rfl, List.forall_mem_cons.mpr ⟨rfl, List.forall_mem_cons.mpr ⟨rfl, fun _ h => absurd h List.not_mem_nil⟩⟩⟩⟩⟩⟩⟩) ?_
                                  refine ih57  ((al + 1)) ((gp + 1)) hh28 ghh28 ?_ ?_ ?_ ?_ ?_ ?_ ?_ ?_
                                  · exact oo
                                  · exact bq
                                  · exact e7
                                  · exact e31
                                  · exact mp
                                  · omega
                                  · omega
                                  · omega
                                refine hd_aload pkX19_between rfl rfl (Int.natCast_nonneg _) ?_
                                refine hd_getZ pkX19_between rfl (ghc24.cell 0 rfl).1 (ghc24.cell 0 rfl).2.1 (fun v29 ev29 rv29 => ?_)
                                obtain ⟨hv, qv29⟩ : ∃ x : Int, x = v29 := ⟨_, rfl⟩
                                have e13 : ga hc24 2514 13 = hv := by rw [qv29, ev29]; rfl
                                subst qv29
                                refine hd_if_eq pkX19_between rfl (fun c30 => ?_) (fun c30 => ?_)
                                · skip
                                  refine m_sub [(0, (2, ((2514 : Nat) : Int))), (1, (0, a)), (2, (0, b)), (3, (0, lg)), (4, (0, (al + 1))), (5, (0, k)), (6, (0, gp)), (7, (0, ((v17 - lg) - gp))), (8, (0, iv)), (9, (0, i))] (List.forall_mem_cons.mpr ⟨rfl, List.forall_mem_cons.mpr ⟨rfl, List.forall_mem_cons.mpr ⟨rfl, List.forall_mem_cons.mpr ⟨rfl, List.forall_mem_cons.mpr ⟨rfl, List.forall_mem_cons.mpr ⟨rfl, List.forall_mem_cons.mpr ⟨rfl, List.forall_mem_cons.mpr ⟨rfl, List.forall_mem_cons.mpr ⟨rfl, List.forall_mem_cons.mpr ⟨rfl, fun _ h => absurd h List.not_mem_nil⟩⟩⟩⟩⟩⟩⟩⟩⟩⟩) ?_
                                  refine cut157 trivial
                                · skip
                                  refine hd_aload pkX19_between rfl rfl (Int.natCast_nonneg _) ?_
                                  refine hd_ipush (z := 15) pkX19_between rfl ?_
                                  refine hd_ipush (z := 16) pkX19_between rfl ?_
                                  obtain ⟨xE, VE, bE⟩ := ne
                                  have ne : Nx hc24 15 28 := ⟨xE, VE, PW_up bE (by decide)⟩
                                  obtain ⟨xW, VW, bW⟩ := bq.2.2.2.2 (by omega)
                                  refine hd_callV pkX19_between rfl (q := (KX19_order, yX19_order, 19, 2, 0)) rfl rfl rfl (As := [(0, 15), (0, 16)]) (rest := []) (c := 2514) rfl rfl (Nat.le_of_ble_eq_true rfl) (ghc24.cell 0 rfl).1 (ghc24.cell 0 rfl).2.1 (h_X19_order (by decide) (by decide) (by decide) (by decide) VE VW ghc24) (hd_bI (fun od hc31 po => ?_))
                                  obtain ⟨po, ehc31⟩ := po
                                  replace ehc31 := ehc31.symm
                                  subst ehc31
                                  refine hd_if_le pkX19_between rfl (fun c32 => ?_) (fun c32 => ?_)
                                  · skip
                                    refine hd_iinc (z := 1) pkX19_between rfl rfl (by omega) rfl ?_
                                    change MW _ _ _ _ _ [(6, (0, (gp + 1))), (4, (0, (al + 1))), (0, (2, ((2514 : Nat) : Int))), (1, (0, a)), (2, (0, b)), (3, (0, lg)), (5, (0, k)), (7, (0, ((v17 - lg) - gp))), (8, (0, iv)), (9, (0, i))] _ _
                                    refine hd_goto pkX19_between rfl ?_
                                    refine m_sub [(0, (2, ((2514 : Nat) : Int))), (1, (0, a)), (2, (0, b)), (3, (0, lg)), (4, (0, (al + 1))), (5, (0, k)), (6, (0, (gp + 1)))] (List.forall_mem_cons.mpr ⟨rfl, List.forall_mem_cons.mpr ⟨rfl, List.forall_mem_cons.mpr ⟨rfl, List.forall_mem_cons.mpr ⟨rfl, List.forall_mem_cons.mpr ⟨rfl, List.forall_mem_cons.mpr ⟨rfl, List.forall_mem_cons.mpr ⟨rfl, fun _ h => absurd h List.not_mem_nil⟩⟩⟩⟩⟩⟩⟩) ?_
                                    refine ih57  ((al + 1)) ((gp + 1)) hc24 ghc24 ?_ ?_ ?_ ?_ ?_ ?_ ?_ ?_
                                    · exact oo
                                    · exact bq
                                    · exact e7
                                    · exact e31
                                    · exact mp
                                    · omega
                                    · omega
                                    · omega
                                  · skip
                                    refine m_sub [(0, (2, ((2514 : Nat) : Int))), (1, (0, a)), (2, (0, b)), (3, (0, lg)), (4, (0, (al + 1))), (5, (0, k)), (6, (0, gp)), (7, (0, ((v17 - lg) - gp))), (8, (0, iv)), (9, (0, i))] (List.forall_mem_cons.mpr ⟨rfl, List.forall_mem_cons.mpr ⟨rfl, List.forall_mem_cons.mpr ⟨rfl, List.forall_mem_cons.mpr ⟨rfl, List.forall_mem_cons.mpr ⟨rfl, List.forall_mem_cons.mpr ⟨rfl, List.forall_mem_cons.mpr ⟨rfl, List.forall_mem_cons.mpr ⟨rfl, List.forall_mem_cons.mpr ⟨rfl, List.forall_mem_cons.mpr ⟨rfl, fun _ h => absurd h List.not_mem_nil⟩⟩⟩⟩⟩⟩⟩⟩⟩⟩) ?_
                                    refine cut157 trivial
                            · skip
                              refine hd_ipush (z := 0) pkX19_between rfl ?_
                              refine hd_istore pkX19_between rfl rfl ?_
                              change MW _ _ _ _ _ [(10, (0, 0)), (0, (2, ((2514 : Nat) : Int))), (1, (0, a)), (2, (0, b)), (3, (0, lg)), (4, (0, al)), (5, (0, k)), (6, (0, gp)), (7, (0, ((v17 - lg) - gp))), (8, (0, iv)), (9, (0, i))] _ _
                              have lp104 : ∀ (N104 : Nat) (iv c : Int), (0 ≤ c ∧ c ≤ cn) → (iv = 0 ∨ iv = 1) → cn - c < (N104 : Int) → MW KX19_between Q 0 0 (pcA pgX19_between 104) [(0, (2, ((2514 : Nat) : Int))), (1, (0, a)), (2, (0, b)), (3, (0, lg)), (4, (0, al)), (5, (0, k)), (6, (0, gp)), (7, (0, ((v17 - lg) - gp))), (8, (0, iv)), (9, (0, i)), (10, (0, c))] [] hg := by
                                intro N104
                                induction N104 with
                                | zero => intro iv c c0 ivv hm104; exfalso; omega
                                | succ N104 ih104 =>
                                  intro iv c c0 ivv hm104
                                  refine hd_iload pkX19_between rfl rfl ?_
                                  refine hd_aload pkX19_between rfl rfl (Int.natCast_nonneg _) ?_
                                  refine hd_getI pkX19_between rfl (g57.cell 0 rfl).1 (g57.cell 0 rfl).2.1 (fun v33 ev33 rv33 => ?_)
                                  have qv33 : cn = v33 := by rw [ev33]; exact bq.1.1.1.symm
                                  subst qv33
                                  refine hd_ic_ge pkX19_between rfl (fun c34 => ?_) (fun c34 => ?_)
                                  · skip
                                    refine hd_iinc (z := 1) pkX19_between rfl rfl (by omega) rfl ?_
                                    change MW _ _ _ _ _ [(9, (0, (i + 1))), (0, (2, ((2514 : Nat) : Int))), (1, (0, a)), (2, (0, b)), (3, (0, lg)), (4, (0, al)), (5, (0, k)), (6, (0, gp)), (7, (0, ((v17 - lg) - gp))), (8, (0, iv)), (10, (0, c))] _ _
                                    refine hd_goto pkX19_between rfl ?_
                                    refine m_sub [(0, (2, ((2514 : Nat) : Int))), (1, (0, a)), (2, (0, b)), (3, (0, lg)), (4, (0, al)), (5, (0, k)), (6, (0, gp)), (7, (0, ((v17 - lg) - gp))), (8, (0, iv)), (9, (0, (i + 1)))] (List.forall_mem_cons.mpr ⟨rfl, List.forall_mem_cons.mpr ⟨rfl, List.forall_mem_cons.mpr ⟨rfl, List.forall_mem_cons.mpr ⟨rfl, List.forall_mem_cons.mpr ⟨rfl, List.forall_mem_cons.mpr ⟨rfl, List.forall_mem_cons.mpr ⟨rfl, List.forall_mem_cons.mpr ⟨rfl, List.forall_mem_cons.mpr ⟨rfl, List.forall_mem_cons.mpr ⟨rfl, fun _ h => absurd h List.not_mem_nil⟩⟩⟩⟩⟩⟩⟩⟩⟩⟩) ?_
                                    refine ih92  (iv) ((i + 1)) ?_ ?_ ?_
                                    · omega
                                    · omega
                                    · omega
                                  · skip
                                    have cut124 : ∀ (i9 : Int), (i9 = 0 ∨ i9 = 1) → MW KX19_between Q 0 0 (pcA pgX19_between 124) [(0, (2, ((2514 : Nat) : Int))), (1, (0, a)), (2, (0, b)), (3, (0, lg)), (4, (0, al)), (5, (0, k)), (6, (0, gp)), (7, (0, ((v17 - lg) - gp))), (8, (0, iv)), (9, (0, i)), (10, (0, c))] [(0, i9)] hg := by
                                      intro i9 i9v
                                      refine hd_istore pkX19_between rfl rfl ?_
                                      change MW _ _ _ _ _ [(8, (0, i9)), (0, (2, ((2514 : Nat) : Int))), (1, (0, a)), (2, (0, b)), (3, (0, lg)), (4, (0, al)), (5, (0, k)), (6, (0, gp)), (7, (0, ((v17 - lg) - gp))), (9, (0, i)), (10, (0, c))] _ _
                                      refine hd_iinc (z := 1) pkX19_between rfl rfl (by omega) rfl ?_
                                      change MW _ _ _ _ _ [(10, (0, (c + 1))), (8, (0, i9)), (0, (2, ((2514 : Nat) : Int))), (1, (0, a)), (2, (0, b)), (3, (0, lg)), (4, (0, al)), (5, (0, k)), (6, (0, gp)), (7, (0, ((v17 - lg) - gp))), (9, (0, i))] _ _
                                      refine hd_goto pkX19_between rfl ?_
                                      refine m_sub [(0, (2, ((2514 : Nat) : Int))), (1, (0, a)), (2, (0, b)), (3, (0, lg)), (4, (0, al)), (5, (0, k)), (6, (0, gp)), (7, (0, ((v17 - lg) - gp))), (8, (0, i9)), (9, (0, i)), (10, (0, (c + 1)))] (List.forall_mem_cons.mpr ⟨rfl, List.forall_mem_cons.mpr ⟨rfl, List.forall_mem_cons.mpr ⟨rfl, List.forall_mem_cons.mpr ⟨rfl, List.forall_mem_cons.mpr ⟨rfl, List.forall_mem_cons.mpr ⟨rfl, List.forall_mem_cons.mpr ⟨rfl, List.forall_mem_cons.mpr ⟨rfl, List.forall_mem_cons.mpr ⟨rfl, List.forall_mem_cons.mpr ⟨rfl, List.forall_mem_cons.mpr ⟨rfl, fun _ h => absurd h List.not_mem_nil⟩⟩⟩⟩⟩⟩⟩⟩⟩⟩⟩) ?_
                                      refine ih104  (i9) ((c + 1)) ?_ ?_ ?_
                                      · omega
                                      · omega
                                      · omega
                                    refine hd_iload pkX19_between rfl rfl ?_
                                    refine hd_if_ne pkX19_between rfl (fun c35 => ?_) (fun c35 => ?_)
                                    · skip
                                      refine hd_ipush (z := 1) pkX19_between rfl ?_
                                      refine hd_goto pkX19_between rfl ?_
                                      refine cut124 (1) ?_
                                      · omega
                                    · skip
                                      refine hd_aload pkX19_between rfl rfl (Int.natCast_nonneg _) ?_
                                      refine hd_getR (n := 2517) pkX19_between rfl (g57.cell 0 rfl).1 (g57.cell 0 rfl).2.1 (g57.ref 2 rfl) ?_
                                      refine hd_iload pkX19_between rfl rfl ?_
                                      refine hd_iald (n := 14) pkX19_between rfl (g57.cell 3 rfl) (by omega) (by omega) (fun v36 ev36 rv36 => ?_)
                                      have rc9 : 0 ≤ v36 ∧ v36 ≤ 400 := by rw [ev36]; exact (bq.1.1.2.2.1 c (by omega) (by omega)).1
                                      refine hd_iload pkX19_between rfl rfl ?_
                                      refine hd_aload pkX19_between rfl rfl (Int.natCast_nonneg _) ?_
                                      refine hd_getR (n := 2521) pkX19_between rfl (g57.cell 0 rfl).1 (g57.cell 0 rfl).2.1 (g57.ref 6 rfl) ?_
                                      refine hd_iload pkX19_between rfl rfl ?_
                                      refine hd_iald (n := 30) pkX19_between rfl (g57.cell 7 rfl) (by omega) (by omega) (fun v37 ev37 rv37 => ?_)
                                      have bh : 0 ≤ v37 ∧ v37 ≤ 240 := by
                                        rw [ev37]
                                        have q := (bq.1.2.1.2 b (by omega) (by omega)).2.2.2 (i - 5 * b) (by omega) (by rw [← ea2]; omega)
                                        rw [show 5 * b + (i - 5 * b) = i by omega] at q
                                        omega
                                      refine hd_isub pkX19_between rfl (by omega) ?_
                                      refine hd_ic_ne pkX19_between rfl (fun c38 => ?_) (fun c38 => ?_)
                                      · skip
                                        refine hd_ipush (z := 0) pkX19_between rfl ?_
                                        refine cut124 (0) ?_
                                        · omega
                                      · skip
                                        refine hd_ipush (z := 1) pkX19_between rfl ?_
                                        refine hd_goto pkX19_between rfl ?_
                                        refine cut124 (1) ?_
                                        · omega
                              refine m_sub [(0, (2, ((2514 : Nat) : Int))), (1, (0, a)), (2, (0, b)), (3, (0, lg)), (4, (0, al)), (5, (0, k)), (6, (0, gp)), (7, (0, ((v17 - lg) - gp))), (8, (0, iv)), (9, (0, i)), (10, (0, 0))] (List.forall_mem_cons.mpr ⟨rfl, List.forall_mem_cons.mpr ⟨rfl, List.forall_mem_cons.mpr ⟨rfl, List.forall_mem_cons.mpr ⟨rfl, List.forall_mem_cons.mpr ⟨rfl, List.forall_mem_cons.mpr ⟨rfl, List.forall_mem_cons.mpr ⟨rfl, List.forall_mem_cons.mpr ⟨rfl, List.forall_mem_cons.mpr ⟨rfl, List.forall_mem_cons.mpr ⟨rfl, List.forall_mem_cons.mpr ⟨rfl, fun _ h => absurd h List.not_mem_nil⟩⟩⟩⟩⟩⟩⟩⟩⟩⟩⟩) ?_
                              refine lp104 ((cn - (0)) + 1).toNat (iv) (0) ?_ ?_ ?_
                              · omega
                              · omega
                              · omega
                        refine m_sub [(0, (2, ((2514 : Nat) : Int))), (1, (0, a)), (2, (0, b)), (3, (0, lg)), (4, (0, al)), (5, (0, k)), (6, (0, gp)), (7, (0, ((v17 - lg) - gp))), (8, (0, i8)), (9, (0, (5 * b)))] (List.forall_mem_cons.mpr ⟨rfl, List.forall_mem_cons.mpr ⟨rfl, List.forall_mem_cons.mpr ⟨rfl, List.forall_mem_cons.mpr ⟨rfl, List.forall_mem_cons.mpr ⟨rfl, List.forall_mem_cons.mpr ⟨rfl, List.forall_mem_cons.mpr ⟨rfl, List.forall_mem_cons.mpr ⟨rfl, List.forall_mem_cons.mpr ⟨rfl, List.forall_mem_cons.mpr ⟨rfl, fun _ h => absurd h List.not_mem_nil⟩⟩⟩⟩⟩⟩⟩⟩⟩⟩) ?_
                        refine lp92 ((5 * b + a2 - ((5 * b))) + 1).toNat (i8) ((5 * b)) ?_ ?_ ?_
                        · omega
                        · omega
                        · omega
                      refine hd_iload pkX19_between rfl rfl ?_
                      refine hd_aload pkX19_between rfl rfl (Int.natCast_nonneg _) ?_
                      refine hd_getR (n := 2523) pkX19_between rfl (g57.cell 0 rfl).1 (g57.cell 0 rfl).2.1 (g57.ref 8 rfl) ?_
                      refine hd_iload pkX19_between rfl rfl ?_
                      refine hd_iald (n := 6) pkX19_between rfl (g57.cell 9 rfl) (by omega) (by omega) (fun v39 ev39 rv39 => ?_)
                      refine hd_ic_eq pkX19_between rfl (fun c40 => ?_) (fun c40 => ?_)
                      · skip
                        refine hd_ipush (z := 1) pkX19_between rfl ?_
                        refine hd_goto pkX19_between rfl ?_
                        refine m_sub [(0, (2, ((2514 : Nat) : Int))), (1, (0, a)), (2, (0, b)), (3, (0, lg)), (4, (0, al)), (5, (0, k)), (6, (0, gp)), (7, (0, ((v17 - lg) - gp)))] (List.forall_mem_cons.mpr ⟨rfl, List.forall_mem_cons.mpr ⟨rfl, List.forall_mem_cons.mpr ⟨rfl, List.forall_mem_cons.mpr ⟨rfl, List.forall_mem_cons.mpr ⟨rfl, List.forall_mem_cons.mpr ⟨rfl, List.forall_mem_cons.mpr ⟨rfl, List.forall_mem_cons.mpr ⟨rfl, fun _ h => absurd h List.not_mem_nil⟩⟩⟩⟩⟩⟩⟩⟩) ?_
                        refine cut87 (1) ?_
                        · omega
                      · skip
                        refine hd_iload pkX19_between rfl rfl ?_
                        refine hd_aload pkX19_between rfl rfl (Int.natCast_nonneg _) ?_
                        refine hd_getR (n := 2524) pkX19_between rfl (g57.cell 0 rfl).1 (g57.cell 0 rfl).2.1 (g57.ref 9 rfl) ?_
                        refine hd_iload pkX19_between rfl rfl ?_
                        refine hd_iald (n := 6) pkX19_between rfl (g57.cell 10 rfl) (by omega) (by omega) (fun v41 ev41 rv41 => ?_)
                        refine hd_ic_ne pkX19_between rfl (fun c42 => ?_) (fun c42 => ?_)
                        · skip
                          refine hd_ipush (z := 0) pkX19_between rfl ?_
                          refine m_sub [(0, (2, ((2514 : Nat) : Int))), (1, (0, a)), (2, (0, b)), (3, (0, lg)), (4, (0, al)), (5, (0, k)), (6, (0, gp)), (7, (0, ((v17 - lg) - gp)))] (List.forall_mem_cons.mpr ⟨rfl, List.forall_mem_cons.mpr ⟨rfl, List.forall_mem_cons.mpr ⟨rfl, List.forall_mem_cons.mpr ⟨rfl, List.forall_mem_cons.mpr ⟨rfl, List.forall_mem_cons.mpr ⟨rfl, List.forall_mem_cons.mpr ⟨rfl, List.forall_mem_cons.mpr ⟨rfl, fun _ h => absurd h List.not_mem_nil⟩⟩⟩⟩⟩⟩⟩⟩) ?_
                          refine cut87 (0) ?_
                          · omega
                        · skip
                          refine hd_ipush (z := 1) pkX19_between rfl ?_
                          refine hd_goto pkX19_between rfl ?_
                          refine m_sub [(0, (2, ((2514 : Nat) : Int))), (1, (0, a)), (2, (0, b)), (3, (0, lg)), (4, (0, al)), (5, (0, k)), (6, (0, gp)), (7, (0, ((v17 - lg) - gp)))] (List.forall_mem_cons.mpr ⟨rfl, List.forall_mem_cons.mpr ⟨rfl, List.forall_mem_cons.mpr ⟨rfl, List.forall_mem_cons.mpr ⟨rfl, List.forall_mem_cons.mpr ⟨rfl, List.forall_mem_cons.mpr ⟨rfl, List.forall_mem_cons.mpr ⟨rfl, List.forall_mem_cons.mpr ⟨rfl, fun _ h => absurd h List.not_mem_nil⟩⟩⟩⟩⟩⟩⟩⟩) ?_
                          refine cut87 (1) ?_
                          · omega
                refine m_sub [(0, (2, ((2514 : Nat) : Int))), (1, (0, a)), (2, (0, b)), (3, (0, lg)), (4, (0, al)), (5, (0, k)), (6, (0, v14))] (List.forall_mem_cons.mpr ⟨rfl, List.forall_mem_cons.mpr ⟨rfl, List.forall_mem_cons.mpr ⟨rfl, List.forall_mem_cons.mpr ⟨rfl, List.forall_mem_cons.mpr ⟨rfl, List.forall_mem_cons.mpr ⟨rfl, List.forall_mem_cons.mpr ⟨rfl, fun _ h => absurd h List.not_mem_nil⟩⟩⟩⟩⟩⟩⟩) ?_
                refine lp57 (((301 : Int) - (v14)) + 1).toNat (al) (v14) hk g48 ?_ ?_ ?_ ?_ ?_ ?_ ?_ ?_
                · exact oo
                · exact bq
                · exact e7
                · exact e31
                · exact mp
                · omega
                · omega
                · omega
          refine m_sub [(0, (2, ((2514 : Nat) : Int))), (1, (0, a)), (2, (0, b)), (3, (0, lg)), (4, (0, 0)), (5, (0, 0))] (List.forall_mem_cons.mpr ⟨rfl, List.forall_mem_cons.mpr ⟨rfl, List.forall_mem_cons.mpr ⟨rfl, List.forall_mem_cons.mpr ⟨rfl, List.forall_mem_cons.mpr ⟨rfl, List.forall_mem_cons.mpr ⟨rfl, fun _ h => absurd h List.not_mem_nil⟩⟩⟩⟩⟩⟩) ?_
          refine lp48 ((mn - (0)) + 1).toNat (0) (0) hc9 ghc9 ?_ ?_ ?_ ?_ ?_ ?_ ?_ ?_
          · exact oo
          · exact bq
          · exact e7
          · exact e31
          · exact mp
          · omega
          · omega
          · omega
        refine hd_aload pkX19_between rfl rfl (Int.natCast_nonneg _) ?_
        refine hd_getR (n := 2520) pkX19_between rfl (ghc9.cell 0 rfl).1 (ghc9.cell 0 rfl).2.1 (ghc9.ref 5 rfl) ?_
        refine hd_iload pkX19_between rfl rfl ?_
        refine hd_iald (n := 6) pkX19_between rfl (ghc9.cell 6 rfl) (by omega) (by omega) (fun v43 ev43 rv43 => ?_)
        obtain ⟨ax, qv43⟩ : ∃ x : Int, x = v43 := ⟨_, rfl⟩
        have ea : ax = ga hc9 2520 a := by rw [qv43, ev43]
        have axb : 0 ≤ ax ∧ ax ≤ 5 := by rw [ea]; exact (bq.1.2.1.2 a (by omega) (by omega)).1
        subst qv43
        refine hd_if_ne pkX19_between rfl (fun c44 => ?_) (fun c44 => ?_)
        · skip
          refine hd_aload pkX19_between rfl rfl (Int.natCast_nonneg _) ?_
          refine hd_getR (n := 2521) pkX19_between rfl (ghc9.cell 0 rfl).1 (ghc9.cell 0 rfl).2.1 (ghc9.ref 6 rfl) ?_
          refine hd_ipush (z := 5) pkX19_between rfl ?_
          refine hd_iload pkX19_between rfl rfl ?_
          refine hd_imul pkX19_between rfl (by omega) ?_
          refine hd_aload pkX19_between rfl rfl (Int.natCast_nonneg _) ?_
          refine hd_getR (n := 2520) pkX19_between rfl (ghc9.cell 0 rfl).1 (ghc9.cell 0 rfl).2.1 (ghc9.ref 5 rfl) ?_
          refine hd_iload pkX19_between rfl rfl ?_
          refine hd_iald (n := 6) pkX19_between rfl (ghc9.cell 6 rfl) (by omega) (by omega) (fun v45 ev45 rv45 => ?_)
          have qv45 : ax = v45 := ea.trans ev45.symm
          subst qv45
          refine hd_iadd pkX19_between rfl (by omega) ?_
          refine hd_ipush (z := 1) pkX19_between rfl ?_
          refine hd_isub pkX19_between rfl (by omega) ?_
          refine hd_iald (n := 30) pkX19_between rfl (ghc9.cell 7 rfl) (by omega) (by omega) (fun v46 ev46 rv46 => ?_)
          have bl9 : 0 ≤ v46 ∧ v46 ≤ 240 := by
            rw [ev46]
            have q := (bq.1.2.1.2 a (by omega) (by omega)).2.2.2 (ax - 1) (by omega) (by rw [← ea]; omega)
            rw [show 5 * a + (ax - 1) = 5 * a + ax - 1 by omega] at q
            omega
          refine cut43 (v46) ?_
          · omega
        · skip
          refine hd_ipush (z := 0) pkX19_between rfl ?_
          refine hd_goto pkX19_between rfl ?_
          refine cut43 (0) ?_
          · omega
      · skip
        refine hd_ipush (z := (-1)) pkX19_between rfl ?_
        refine hd_iret pkX19_between rfl ?_
        subst eQ
        refine ⟨rfl, rfl, ?_, oo, bq.j, ghc6⟩
        show -1 ≤ ((-1) : Int) ∧ ((-1) : Int) ≤ 22000
        omega
    · skip
      refine cut8 trivial
