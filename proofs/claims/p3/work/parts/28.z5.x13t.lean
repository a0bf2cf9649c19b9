/-! X13 by hand: its methods -/
set_option maxRecDepth 20000 in
set_option maxHeartbeats 8000000 in
theorem h_X13_sources {h : MH} (cb : (0 ≤ ga h 2468 1 ∧ ga h 2468 1 ≤ 8) ∧ 0 ≤ ga h 2468 6 ∧ ga h 2468 6 ≤ 4) (g : Str t13c r13c h) : MCal KX13_sources yX13_sources 0 0 [(2, ((2468 : Nat) : Int))] h (mRI fun v h' => v = ga h 2468 1 + ga h 2468 6 ∧ h' = h) := by
  refine MCal.ofMW (Or.inl rfl) ⟨cp_X13, rfl⟩ (Nat.le_of_ble_eq_true rfl) ?_
  generalize eQ : (mRI fun v h' => v = ga h 2468 1 + ga h 2468 6 ∧ h' = h : MO → MH → Prop) = Q
  change MW KX13_sources Q 0 0 (pcA pgX13_sources 0) [(0, (2, ((2468 : Nat) : Int)))] [] h
  refine hd_aload pkX13_sources rfl rfl (Int.natCast_nonneg _) ?_
  refine hd_getI pkX13_sources rfl (g.cell 0 rfl).1 (g.cell 0 rfl).2.1 (fun v1 ev1 rv1 => ?_)
  replace ev1 : v1 = ga h 2468 1 := ev1
  refine hd_aload pkX13_sources rfl rfl (Int.natCast_nonneg _) ?_
  refine hd_getI pkX13_sources rfl (g.cell 0 rfl).1 (g.cell 0 rfl).2.1 (fun v2 ev2 rv2 => ?_)
  replace ev2 : v2 = ga h 2468 6 := ev2
  refine hd_iadd pkX13_sources rfl (by omega) ?_
  refine hd_iret pkX13_sources rfl ?_
  subst eQ
  exact ⟨rfl, rfl, by show (v1 + v2) = _; omega, rfl⟩
set_option maxRecDepth 20000 in
set_option maxHeartbeats 8000000 in
theorem h_X13_firstOfAll {h : MH} (nr : NR13 (N13 h (-1))) (ar : AR13 h) (nb : NB13 h) {π : Int → Int} (pv : PV13 (N13 h (-1)) π) (xf : ∀ u : Int, 13 ≤ u → u ≤ 20 → ex13 (N13 h (-1)) (ga h 2490) u = 0) (cb : (0 ≤ ga h 2468 1 ∧ ga h 2468 1 ≤ 8) ∧ 0 ≤ ga h 2468 6 ∧ ga h 2468 6 ≤ 4) (mv : ∀ e : Int, ga h 2468 1 + ga h 2468 6 ≤ e → e < ga h 2468 22 → 1 ≤ ga h 2486 e) (dn0 : ∀ g : Int, 0 ≤ g → g < ga h 2468 22 → ga h 2491 g = 0) (byh : BY13 h) (g : Str t13c r13c h) : MCal KX13_firstOfAll yX13_firstOfAll 0 0 [(2, ((2468 : Nat) : Int))] h (mRV fun h' => Only [2490, 2491, 2492, 2493] h h' ∧ NB13 h' ∧ BY13 h') := by
  refine MCal.ofMW (Or.inl rfl) ⟨cp_X13, rfl⟩ (Nat.le_of_ble_eq_true rfl) ?_
  generalize eQ : (mRV fun h' => Only [2490, 2491, 2492, 2493] h h' ∧ NB13 h' ∧ BY13 h' : MO → MH → Prop) = Q
  change MW KX13_firstOfAll Q 0 0 (pcA pgX13_firstOfAll 0) [(0, (2, ((2468 : Nat) : Int)))] [] h
  obtain ⟨na, ena⟩ : ∃ x : Int, x = ga h 2468 22 := ⟨_, rfl⟩
  have nab : 0 ≤ na ∧ na ≤ 140 := by rw [ena]; exact nr.1
  refine hd_aload pkX13_firstOfAll rfl rfl (Int.natCast_nonneg _) ?_
  refine hd_callV pkX13_firstOfAll rfl (q := (KX13_sources, yX13_sources, 13, 0, 0)) rfl rfl rfl (As := []) (rest := []) (c := 2468) rfl rfl (Nat.le_of_ble_eq_true rfl) (g.cell 0 rfl).1 (g.cell 0 rfl).2.1 (h_X13_sources cb g) (hd_bI (fun w1 hc2 ps => ?_))
  obtain ⟨ps, ehc2⟩ := ps
  replace ehc2 := ehc2.symm
  subst ehc2
  subst ps
  refine hd_istore pkX13_firstOfAll rfl rfl ?_
  change MW _ _ _ _ _ [(1, (0, (ga h 2468 1 + ga h 2468 6))), (0, (2, ((2468 : Nat) : Int)))] _ _
  have lp3 : ∀ (N3 : Nat) (e : Int) (hE : MH), Str t13c r13c hE → (ga h 2468 1 + ga h 2468 6 ≤ e ∧ e ≤ 140) → (FI13 h hE π e) → (140 : Int) - e < (N3 : Int) → MW KX13_firstOfAll Q 0 0 (pcA pgX13_firstOfAll 3) [(0, (2, ((2468 : Nat) : Int))), (1, (0, e))] [] hE := by
    intro N3
    induction N3 with
    | zero => intro e hE g3 e0 fi hm3; exfalso; omega
    | succ N3 ih3 =>
      intro e hE g3 e0 fi hm3
      refine hd_iload pkX13_firstOfAll rfl rfl ?_
      refine hd_aload pkX13_firstOfAll rfl rfl (Int.natCast_nonneg _) ?_
      refine hd_getI pkX13_firstOfAll rfl (g3.cell 0 rfl).1 (g3.cell 0 rfl).2.1 (fun v3 ev3 rv3 => ?_)
      replace ev3 : v3 = ga hE 2468 22 := ev3
      have qv3 : na = v3 := by rw [ev3, fi.1.ga (by decide)]; exact ena
      subst qv3
      refine hd_ic_ge pkX13_firstOfAll rfl (fun c4 => ?_) (fun c4 => ?_)
      · skip
        refine hd_vret pkX13_firstOfAll rfl ?_
        subst eQ
        exact ⟨rfl, fi.1, fi.2.1, fi.2.2.2.2.2⟩
      · skip
        refine hd_aload pkX13_firstOfAll rfl rfl (Int.natCast_nonneg _) ?_
        refine hd_getR (n := 2486) pkX13_firstOfAll rfl (g3.cell 0 rfl).1 (g3.cell 0 rfl).2.1 (g3.ref 17 rfl) ?_
        refine hd_iload pkX13_firstOfAll rfl rfl ?_
        refine hd_iald (n := 140) pkX13_firstOfAll rfl (g3.cell 18 rfl) (by omega) (by omega) (fun v5 ev5 rv5 => ?_)
        obtain ⟨be, qv5⟩ : ∃ x : Int, x = v5 := ⟨_, rfl⟩
        have ebe : be = ga h 2486 e := qv5.trans (ev5.trans (fi.1.ga (by decide) _))
        subst qv5
        refine hd_ipush (z := 13) pkX13_firstOfAll rfl ?_
        refine hd_ic_ge pkX13_firstOfAll rfl (fun c6 => ?_) (fun c6 => ?_)
        · skip
          refine hd_vret pkX13_firstOfAll rfl ?_
          subst eQ
          exact ⟨rfl, fi.1, fi.2.1, fi.2.2.2.2.2⟩
        · skip
          obtain ⟨c9, ec9⟩ : ∃ x : Int, x = ga h 2487 e := ⟨_, rfl⟩
          have eA : e < ga h 2468 22 := by omega
          have mv9 := mv e (by omega) eA
          have ar9 := ((ar e (by omega) eA).2.1 mv9 (by omega)).1
          rw [← ec9] at ar9
          rw [← ebe] at mv9
          refine hd_ipush (z := 1) pkX13_firstOfAll rfl ?_
          refine hd_istore pkX13_firstOfAll rfl rfl ?_
          change MW _ _ _ _ _ [(2, (0, 1)), (0, (2, ((2468 : Nat) : Int))), (1, (0, e))] _ _
          have lp15 : ∀ (N15 : Nat) (mo : Int) (hM : MH), Str t13c r13c hM → (mo = 0 ∨ mo = 1) → (FI13 h hM π e) → 2 * PS13 hM e c9 + mo < (N15 : Int) → MW KX13_firstOfAll Q 0 0 (pcA pgX13_firstOfAll 15) [(0, (2, ((2468 : Nat) : Int))), (1, (0, e)), (2, (0, mo))] [] hM := by
            intro N15
            induction N15 with
            | zero => intro mo hM g15 mb fm hm15; exfalso; have := PS13.nn fm.2.1 e c9; omega
            | succ N15 ih15 =>
              intro mo hM g15 mb fm hm15
              refine hd_iload pkX13_firstOfAll rfl rfl ?_
              refine hd_if_eq pkX13_firstOfAll rfl (fun c7 => ?_) (fun c7 => ?_)
              · skip
                refine hd_aload pkX13_firstOfAll rfl rfl (Int.natCast_nonneg _) ?_
                refine hd_getR (n := 2491) pkX13_firstOfAll rfl (g15.cell 0 rfl).1 (g15.cell 0 rfl).2.1 (g15.ref 22 rfl) ?_
                refine hd_iload pkX13_firstOfAll rfl rfl ?_
                refine hd_ipush (z := 1) pkX13_firstOfAll rfl ?_
                refine hd_zast (n := 140) pkX13_firstOfAll rfl (g15.cell 23 rfl) (by decide) (by omega) (by omega) (by omega) (fun hh8 ehh8 => ?_)
                have ghh8 : Str t13c r13c hh8 := by rw [ehh8]; exact g15.setA rfl
                have fd := fm.done (by omega) ehh8
                refine hd_iinc (z := 1) pkX13_firstOfAll rfl rfl (by omega) rfl ?_
                change MW _ _ _ _ _ [(1, (0, (e + 1))), (0, (2, ((2468 : Nat) : Int))), (2, (0, mo))] _ _
                refine hd_goto pkX13_firstOfAll rfl ?_
                refine m_sub [(0, (2, ((2468 : Nat) : Int))), (1, (0, (e + 1)))] (List.forall_mem_cons.mpr ⟨rfl, List.forall_mem_cons.mpr ⟨rfl, fun _ h => absurd h List.not_mem_nil⟩⟩) ?_
                refine ih3  ((e + 1)) hh8 ghh8 ?_ ?_ ?_
                · omega
                · exact fd
                · omega
              · skip
                refine hd_aload pkX13_firstOfAll rfl rfl (Int.natCast_nonneg _) ?_
                refine hd_aload pkX13_firstOfAll rfl rfl (Int.natCast_nonneg _) ?_
                refine hd_getR (n := 2487) pkX13_firstOfAll rfl (g15.cell 0 rfl).1 (g15.cell 0 rfl).2.1 (g15.ref 18 rfl) ?_
                refine hd_iload pkX13_firstOfAll rfl rfl ?_
                refine hd_iald (n := 140) pkX13_firstOfAll rfl (g15.cell 19 rfl) (by omega) (by omega) (fun v9 ev9 rv9 => ?_)
                have qv9 : c9 = v9 := by rw [ev9, fm.1.ga (by decide)]; exact ec9
                subst qv9
                refine hd_iload pkX13_firstOfAll rfl rfl ?_
                have nrM : NR13 (N13 hM e) := nr.keep (fun c hc => onlyF fm.1 (by revert hc; revert c; decide)) (fm.1.ga (by decide) _)
                refine hd_callV pkX13_firstOfAll rfl (q := (KX13_walk, yX13_walk, 13, 2, 0)) rfl rfl rfl (As := [(0, c9), (0, e)]) (rest := []) (c := 2468) rfl rfl (Nat.le_of_ble_eq_true rfl) (g15.cell 0 rfl).1 (g15.cell 0 rfl).2.1 (h_X13_walk (wo := e) nrM (PV13.wo e fm.2.2.1) ⟨by omega, by omega⟩ g15) (hd_bV (fun hc10 pw => ?_))
                have ghc10 : Str t13c r13c hc10 := g15.only pw.1 (by decide)
                obtain ⟨fX, eNX⟩ := fm.walk nrM pw.1 pw.2.1
                have wX : WI13 (N13 hc10 e) π c9 (ga hc10 2492) (ga hc10 2493) := WI13.net eNX pw.2.1
                have xX : FX13 (N13 hc10 e) (ga hc10 2492) := by rw [eNX]; exact pw.2.2
                have nrX : NR13 (N13 hc10 e) := by rw [eNX]; exact nrM
                have psX : PS13 hc10 e c9 ≤ PS13 hM e c9 := PS13.keep (fun d hd => onlyF pw.1 (by revert hd; revert d; decide)) (fun g _ _ => pw.1.ga (by decide) _) (pw.1.ga (by decide) _)
                obtain ⟨hX, ehX⟩ : ∃ x : MH, x = hc10 := ⟨_, rfl⟩
                have lX := wX.low nrX be (by omega) (by omega)
                have uX := (wX.2.1 be (by omega) (by omega)).1
                rw [← ehX] at lX uX
                have cut52 : ∀ (m2 : Int), ((m2 = 1 ∧ ga hX 2492 be < 1125899906842624 ∧ ga hX 2492 be + ga h 2489 e = 0) ∨ m2 = 0) → MW KX13_firstOfAll Q 0 0 (pcA pgX13_firstOfAll 52) [(0, (2, ((2468 : Nat) : Int))), (1, (0, e)), (2, (0, mo))] [(0, m2)] hc10 := by
                  intro m2 em2
                  refine hd_istore pkX13_firstOfAll rfl rfl ?_
                  change MW _ _ _ _ _ [(2, (0, m2)), (0, (2, ((2468 : Nat) : Int))), (1, (0, e))] _ _
                  refine hd_iload pkX13_firstOfAll rfl rfl ?_
                  refine hd_if_eq pkX13_firstOfAll rfl (fun c11 => ?_) (fun c11 => ?_)
                  · skip
                    refine m_sub [(0, (2, ((2468 : Nat) : Int))), (1, (0, e)), (2, (0, m2))] (List.forall_mem_cons.mpr ⟨rfl, List.forall_mem_cons.mpr ⟨rfl, List.forall_mem_cons.mpr ⟨rfl, fun _ h => absurd h List.not_mem_nil⟩⟩⟩) ?_
                    refine ih15  (m2) hc10 ghc10 ?_ ?_ ?_
                    · omega
                    · exact fX
                    · first | omega | (have := psX; omega)
                  · skip
                    refine hd_aload pkX13_firstOfAll rfl rfl (Int.natCast_nonneg _) ?_
                    refine hd_aload pkX13_firstOfAll rfl rfl (Int.natCast_nonneg _) ?_
                    refine hd_getR (n := 2487) pkX13_firstOfAll rfl (ghc10.cell 0 rfl).1 (ghc10.cell 0 rfl).2.1 (ghc10.ref 18 rfl) ?_
                    refine hd_iload pkX13_firstOfAll rfl rfl ?_
                    refine hd_iald (n := 140) pkX13_firstOfAll rfl (ghc10.cell 19 rfl) (by omega) (by omega) (fun v12 ev12 rv12 => ?_)
                    have qv12 : c9 = v12 := by rw [ev12, fX.1.ga (by decide)]; exact ec9
                    subst qv12
                    refine hd_aload pkX13_firstOfAll rfl rfl (Int.natCast_nonneg _) ?_
                    refine hd_getR (n := 2486) pkX13_firstOfAll rfl (ghc10.cell 0 rfl).1 (ghc10.cell 0 rfl).2.1 (ghc10.ref 17 rfl) ?_
                    refine hd_iload pkX13_firstOfAll rfl rfl ?_
                    refine hd_iald (n := 140) pkX13_firstOfAll rfl (ghc10.cell 18 rfl) (by omega) (by omega) (fun v13 ev13 rv13 => ?_)
                    have qv13 : be = v13 := by rw [ev13, fX.1.ga (by decide)]; exact ebe
                    subst qv13
                    refine hd_lpush (z := 1125899906842624) pkX13_firstOfAll rfl ?_
                    have em3 := em2.resolve_right (by omega)
                    refine hd_callV pkX13_firstOfAll rfl (q := (KX13_go, yX13_go, 13, 3, 0)) rfl rfl rfl (As := [(0, c9), (0, be), (1, 1125899906842624)]) (rest := []) (c := 2468) rfl rfl (Nat.le_of_ble_eq_true rfl) (ghc10.cell 0 rfl).1 (ghc10.cell 0 rfl).2.1 (h_X13_go (wo := e) nrX wX ⟨by omega, by omega⟩ ⟨by omega, by omega⟩ (by rw [← ehX]; unfold M50; omega) ⟨by decide, by decide⟩ fX.2.1 ghc10) (hd_bL (fun so hc14 pg => ?_))
                    have ghc14 : Str t13c r13c hc14 := ghc10.only pg.1 (by decide)
                    obtain ⟨hG, ehG⟩ : ∃ x : MH, x = hc14 := ⟨_, rfl⟩
                    have rg := fun z (oz : z = sa hc14 2490 e (ga hc14 2490 e + so)) => fX.ring nr ar (by omega) eA ebe.symm ec9.symm ⟨mv9, by omega⟩ ar9 wX xX (by rw [← ehX]; exact em3.2.2) pg.1 pg.2.2 pg.2.1 oz
                    have sX := fX.small nr ar (by omega) eA ar9 ec9.symm
                    have nX := (rg _ rfl).2.2
                    refine hd_lstore pkX13_firstOfAll rfl rfl ?_
                    change MW _ _ _ _ _ [(3, (1, so)), (2, (0, m2)), (0, (2, ((2468 : Nat) : Int))), (1, (0, e))] _ _
                    refine hd_aload pkX13_firstOfAll rfl rfl (Int.natCast_nonneg _) ?_
                    refine hd_getR (n := 2490) pkX13_firstOfAll rfl (ghc14.cell 0 rfl).1 (ghc14.cell 0 rfl).2.1 (ghc14.ref 21 rfl) ?_
                    refine hd_iload pkX13_firstOfAll rfl rfl ?_
                    refine hd_dup2 pkX13_firstOfAll rfl rfl rfl ?_
                    refine hd_lald (n := 140) pkX13_firstOfAll rfl (ghc14.cell 22 rfl) (by omega) (by omega) (fun v15 ev15 rv15 => ?_)
                    have qv15 : ga hG 2490 e = v15 := by rw [ev15, ehG]
                    rw [← ehG] at nX
                    subst qv15
                    refine hd_lload pkX13_firstOfAll rfl rfl ?_
                    refine hd_ladd pkX13_firstOfAll rfl (by have := pg.2.1; omega) ?_
                    refine hd_last (n := 140) pkX13_firstOfAll rfl (ghc14.cell 22 rfl) (by decide) (by omega) (by omega) (fun hh16 ehh16 => ?_)
                    have ghh16 : Str t13c r13c hh16 := by rw [ehh16]; exact ghc14.setA rfl
                    obtain ⟨fz, pz, _⟩ := rg hh16 (by rw [ehh16, ehG])
                    refine hd_goto pkX13_firstOfAll rfl ?_
                    refine m_sub [(0, (2, ((2468 : Nat) : Int))), (1, (0, e)), (2, (0, m2))] (List.forall_mem_cons.mpr ⟨rfl, List.forall_mem_cons.mpr ⟨rfl, List.forall_mem_cons.mpr ⟨rfl, fun _ h => absurd h List.not_mem_nil⟩⟩⟩) ?_
                    refine ih15  (m2) hh16 ghh16 ?_ ?_ ?_
                    · omega
                    · exact fz
                    · first | omega | (have := psX; omega)
                refine hd_aload pkX13_firstOfAll rfl rfl (Int.natCast_nonneg _) ?_
                refine hd_getR (n := 2492) pkX13_firstOfAll rfl (ghc10.cell 0 rfl).1 (ghc10.cell 0 rfl).2.1 (ghc10.ref 23 rfl) ?_
                refine hd_aload pkX13_firstOfAll rfl rfl (Int.natCast_nonneg _) ?_
                refine hd_getR (n := 2486) pkX13_firstOfAll rfl (ghc10.cell 0 rfl).1 (ghc10.cell 0 rfl).2.1 (ghc10.ref 17 rfl) ?_
                refine hd_iload pkX13_firstOfAll rfl rfl ?_
                refine hd_iald (n := 140) pkX13_firstOfAll rfl (ghc10.cell 18 rfl) (by omega) (by omega) (fun v17 ev17 rv17 => ?_)
                have qv17 : be = v17 := by rw [ev17, fX.1.ga (by decide)]; exact ebe
                subst qv17
                refine hd_lald (n := 34) pkX13_firstOfAll rfl (ghc10.cell 24 rfl) (by omega) (by omega) (fun v18 ev18 rv18 => ?_)
                have qv18 : ga hX 2492 be = v18 := by rw [ev18, ehX]
                subst qv18
                refine hd_lpush (z := 1125899906842624) pkX13_firstOfAll rfl ?_
                refine hd_lc_ge pkX13_firstOfAll rfl (fun c19 => ?_) (fun c19 => ?_)
                · skip
                  refine hd_ipush (z := 0) pkX13_firstOfAll rfl ?_
                  refine cut52 (0) ?_
                  · omega
                · skip
                  refine hd_aload pkX13_firstOfAll rfl rfl (Int.natCast_nonneg _) ?_
                  refine hd_getR (n := 2492) pkX13_firstOfAll rfl (ghc10.cell 0 rfl).1 (ghc10.cell 0 rfl).2.1 (ghc10.ref 23 rfl) ?_
                  refine hd_aload pkX13_firstOfAll rfl rfl (Int.natCast_nonneg _) ?_
                  refine hd_getR (n := 2486) pkX13_firstOfAll rfl (ghc10.cell 0 rfl).1 (ghc10.cell 0 rfl).2.1 (ghc10.ref 17 rfl) ?_
                  refine hd_iload pkX13_firstOfAll rfl rfl ?_
                  refine hd_iald (n := 140) pkX13_firstOfAll rfl (ghc10.cell 18 rfl) (by omega) (by omega) (fun v20 ev20 rv20 => ?_)
                  have qv20 : be = v20 := by rw [ev20, fX.1.ga (by decide)]; exact ebe
                  subst qv20
                  refine hd_lald (n := 34) pkX13_firstOfAll rfl (ghc10.cell 24 rfl) (by omega) (by omega) (fun v21 ev21 rv21 => ?_)
                  have qv21 : ga hX 2492 be = v21 := by rw [ev21, ehX]
                  subst qv21
                  refine hd_aload pkX13_firstOfAll rfl rfl (Int.natCast_nonneg _) ?_
                  refine hd_getR (n := 2489) pkX13_firstOfAll rfl (ghc10.cell 0 rfl).1 (ghc10.cell 0 rfl).2.1 (ghc10.ref 20 rfl) ?_
                  refine hd_iload pkX13_firstOfAll rfl rfl ?_
                  refine hd_lald (n := 140) pkX13_firstOfAll rfl (ghc10.cell 21 rfl) (by omega) (by omega) (fun v22 ev22 rv22 => ?_)
                  have qv22 : ga h 2489 e = v22 := by rw [ev22, fX.1.ga (by decide)]
                  subst qv22
                  refine hd_ladd pkX13_firstOfAll rfl (by have := (nr.2 e (by omega) eA).2.2; have : 0 ≤ ga h 2489 e ∧ ga h 2489 e ≤ 300000 := this; unfold M50 at uX; omega) ?_
                  refine hd_lpush (z := 0) pkX13_firstOfAll rfl ?_
                  refine hd_lc_ne pkX13_firstOfAll rfl (fun c23 => ?_) (fun c23 => ?_)
                  · skip
                    refine hd_ipush (z := 0) pkX13_firstOfAll rfl ?_
                    refine cut52 (0) ?_
                    · omega
                  · skip
                    refine hd_ipush (z := 1) pkX13_firstOfAll rfl ?_
                    refine hd_goto pkX13_firstOfAll rfl ?_
                    refine cut52 (1) ?_
                    · omega
          refine m_sub [(0, (2, ((2468 : Nat) : Int))), (1, (0, e)), (2, (0, 1))] (List.forall_mem_cons.mpr ⟨rfl, List.forall_mem_cons.mpr ⟨rfl, List.forall_mem_cons.mpr ⟨rfl, fun _ h => absurd h List.not_mem_nil⟩⟩⟩) ?_
          refine lp15 ((2 * PS13 hE e c9 + (1)) + 1).toNat (1) hE g3 ?_ ?_ ?_
          · omega
          · exact fi
          · have := PS13.nn fi.2.1 e c9; omega
  refine m_sub [(0, (2, ((2468 : Nat) : Int))), (1, (0, (ga h 2468 1 + ga h 2468 6)))] (List.forall_mem_cons.mpr ⟨rfl, List.forall_mem_cons.mpr ⟨rfl, fun _ h => absurd h List.not_mem_nil⟩⟩) ?_
  refine lp3 (((140 : Int) - ((ga h 2468 1 + ga h 2468 6))) + 1).toNat ((ga h 2468 1 + ga h 2468 6)) h g ?_ ?_ ?_
  · omega
  · exact ⟨Only.refl _ _, nb, pv, xf, fun g a b => dn0 g (by omega) b, byh⟩
  · omega
