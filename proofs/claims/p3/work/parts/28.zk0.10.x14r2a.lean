set_option maxRecDepth 20000 in
set_option maxHeartbeats 8000000 in
theorem h_X14_heights {h : MH} {n e e9 M : Int} {O O9 : Rat} {A1 : Int → Int → Rat} (hn : 0 ≤ n) (hnM : n ≤ M) (hM1 : 1 ≤ M) (hM3 : M ≤ 3) (hM : ga h 2495 3 = M) (hE : ga h 2495 17 = e) (he1 : e < 12) (he2 : 0 < n → n < M → e < 11) (hq : (0 < n ∧ n < M ∧ e9 = e + 2) ∨ (¬(0 < n ∧ n < M) ∧ e9 = e + 1)) (hB1 : n = 0 → O * 3 ≤ O9) (hB2 : 0 < n → n < M → O * 14688 ≤ O9) (hB3 : n = M → O * 4896 ≤ O9) (hBE : ∀ k : Int, 0 ≤ k → k < M → (1 ≤ ga h 2498 k ∧ ga h 2498 k ≤ 12) ∧ (1 ≤ ga h 2499 k ∧ ga h 2499 k ≤ 12)) (hs : ∀ j : Int, 0 ≤ j → j ≤ M → -1000 ≤ ga h 2503 j ∧ ga h 2503 j ≤ 1000) (tb : Tab 2496 2497 h A1) (pr : Prt A1 e O zP oQ) (g : Str t14 r14 h) : MCal KX14_heights yX14_heights 0 0 [(2, ((2495 : Nat) : Int)), (0, n)] h (mRV fun h' => Only [2496, 2497, 2495] h h' ∧ ga h' 2495 17 = e9 ∧ (∀ j : Int, 0 ≤ j → j ≠ 17 → ga h' 2495 j = ga h 2495 j) ∧ ∃ A2 : Int → Int → Rat, Tab 2496 2497 h' A2 ∧ Prt A2 e9 O9 zP oQ) := by
  refine MCal.ofMW (Or.inl rfl) ⟨cp_X14, rfl⟩ (Nat.le_of_ble_eq_true rfl) ?_
  generalize eQ : (mRV fun h' => Only [2496, 2497, 2495] h h' ∧ ga h' 2495 17 = e9 ∧ (∀ j : Int, 0 ≤ j → j ≠ 17 → ga h' 2495 j = ga h 2495 j) ∧ ∃ A2 : Int → Int → Rat, Tab 2496 2497 h' A2 ∧ Prt A2 e9 O9 zP oQ : MO → MH → Prop) = Q
  change MW KX14_heights Q 0 0 (pcA pgX14_heights 0) [(0, (2, ((2495 : Nat) : Int))), (1, (0, n))] [] h
  refine hd_locI (i := 1) rfl (fun rn => ?_)
  have hO : Only [2496, 2497, 2495] h h := Only.refl _ _
  have hF : ∀ j : Int, 0 ≤ j → j ≠ 17 → ga h 2495 j = ga h 2495 j := fun _ _ _ => rfl
  have O0 := pr.nn
  have e0 := pr.e0
  refine hd_aload pkX14_heights rfl rfl (Int.natCast_nonneg _) ?_
  refine hd_getR (n := 2500) pkX14_heights rfl (g.cell 0 rfl).1 (g.cell 0 rfl).2.1 (g.ref 4 rfl) ?_
  refine hd_iload pkX14_heights rfl rfl ?_
  refine hd_zald (n := 4) pkX14_heights rfl (g.cell 5 rfl) (by omega) (by omega) (fun v1 ev1 rv1 => ?_)
  refine hd_if_eq pkX14_heights rfl (fun c2 => ?_) (fun c2 => ?_)
  · skip
    have cut82 : ∀ (_ : True) (hj82 : MH), Str t14 r14 hj82 → (Only [2496, 2497, 2495] h hj82) → (∀ j : Int, 0 ≤ j → j ≠ 17 → ga hj82 2495 j = ga h 2495 j) → (∃ A1 : Int → Int → Rat, ∃ E2 : Int, ∃ O2 : Rat, ga hj82 2495 17 = E2 ∧ Tab 2496 2497 hj82 A1 ∧ Prt A1 E2 O2 zP oQ ∧ (Cw (0 < n ∧ n < M) E2 e O2 O 4896)) → MW KX14_heights Q 0 0 (pcA pgX14_heights 82) [(0, (2, ((2495 : Nat) : Int))), (1, (0, n))] [] hj82 := by
      intro _ hj82 gc82 hO hF tbx
      obtain ⟨A1, E2, O2, hE, tb, pr, cO⟩ := tbx
      have cE := cO.e
      have cut105 : ∀ (_ : True) (hj105 : MH), Str t14 r14 hj105 → (Only [2496, 2497, 2495] h hj105) → (∀ j : Int, 0 ≤ j → j ≠ 17 → ga hj105 2495 j = ga h 2495 j) → (∃ A1 : Int → Int → Rat, ∃ E2 : Int, ∃ O2 : Rat, ∃ PP QQ : Int → Int, ga hj105 2495 17 = E2 ∧ Tab 2496 2497 hj105 A1 ∧ Prt A1 E2 O2 PP QQ ∧ (Cw (0 < n ∧ n < M) E2 e O2 O 4896) ∧ ((n < M ∧ PP = (atF (atF zP (4 * n + 3) 1) (12 + 5 * n) (-1)) ∧ QQ = (atF (atF oQ (4 * n + 3) 1) (12 + 5 * n) 1)) ∨ (M ≤ n ∧ PP = zP ∧ QQ = oQ))) → MW KX14_heights Q 0 0 (pcA pgX14_heights 105) [(0, (2, ((2495 : Nat) : Int))), (1, (0, n))] [] hj105 := by
        intro _ hj105 gc105 hO hF tbx
        obtain ⟨A1, E2, O2, PP, QQ, hE, tb, pr, cO, cP⟩ := tbx
        have cE := cO.e
        have cut132 : ∀ (_ : True) (hj132 : MH), Str t14 r14 hj132 → (Only [2496, 2497, 2495] h hj132) → (∀ j : Int, 0 ≤ j → j ≠ 17 → ga hj132 2495 j = ga h 2495 j) → (∃ A1 : Int → Int → Rat, ∃ E2 : Int, ∃ O2 : Rat, ∃ PP QQ : Int → Int, ∃ u v : Int, ga hj132 2495 17 = E2 ∧ Tab 2496 2497 hj132 A1 ∧ Prt A1 E2 O2 PP QQ ∧ (Cw (0 < n ∧ n < M) E2 e O2 O 4896) ∧ (RWc PP QQ 1 u v = true) ∧ (((u + v : Int) : Rat) ≤ 3)) → MW KX14_heights Q 0 0 (pcA pgX14_heights 132) [(0, (2, ((2495 : Nat) : Int))), (1, (0, n))] [] hj132 := by
          intro _ hj132 gc132 hO hF tbx
          obtain ⟨A1, E2, O2, PP, QQ, u, v, hE, tb, pr, cO, ck, ew⟩ := tbx
          have cE := cO.e
          refine hd_aload pkX14_heights rfl rfl (Int.natCast_nonneg _) ?_
          refine hd_callV pkX14_heights rfl (q := (KX14_next, yX14_next, 14, 0, 0)) rfl rfl rfl (As := []) (rest := []) (c := 2495) rfl rfl (Nat.le_of_ble_eq_true rfl) (gc132.cell 0 rfl).1 (gc132.cell 0 rfl).2.1 (h_X14_next hE ⟨by omega, by omega⟩ gc132) (hd_bV (fun hc3 pn => ?_))
          have ghc3 : Str t14 r14 hc3 := gc132.but pn.1 pn.2.2 (by decide)
          have hO := hO.trans (pn.1.mono (by decide))
          have tb := tb.only pn.1 (by decide) (by decide)
          have hE := pn.2.1
          have hF := fun (j : Int) (j0 : 0 ≤ j) (j1 : j ≠ 17) => (pn.2.2 j j0 j1).trans (hF j j0 j1)
          have pr : Prt A1 (E2 + 1) (O2 * 3) zP oQ := pr.done (by omega) rfl ck ew
          refine hd_vret pkX14_heights rfl ?_
          subst eQ
          refine ⟨rfl, hO, hE.trans (by omega), hF, A1, tb, ?_⟩
          rw [show e9 = E2 + 1 by omega]
          exact pr.up (hb_c O0 hn cO hnM hB1 hB2 hB3)
        refine hd_iload pkX14_heights rfl rfl ?_
        refine hd_if_le pkX14_heights rfl (fun c4 => ?_) (fun c4 => ?_)
        · skip
          refine cut132 trivial hj105 gc105 ?_ ?_ ?_
          · exact hO
          · exact hF
          · rcases cP with ⟨c, q, q2⟩ | ⟨c, q, q2⟩
            · rw [q, q2] at pr
              exact ⟨A1, E2, O2, _, _, _, _, hE, tb, pr, cO, (ckS (k := n) ⟨by omega, by omega⟩ (hBE n hn c).1 (hBE n hn c).2).1, by decide⟩
            · exfalso
              omega
        · skip
          refine hd_aload pkX14_heights rfl rfl (Int.natCast_nonneg _) ?_
          refine hd_aload pkX14_heights rfl rfl (Int.natCast_nonneg _) ?_
          refine hd_getI pkX14_heights rfl (gc105.cell 0 rfl).1 (gc105.cell 0 rfl).2.1 (fun v5 ev5 rv5 => ?_)
          have qv5 : E2 = v5 := by rw [ev5]; exact hE.symm
          subst qv5
          refine hd_iload pkX14_heights rfl rfl ?_
          refine hd_ipush (z := 1) pkX14_heights rfl ?_
          refine hd_isub pkX14_heights rfl (by omega) ?_
          refine hd_ipush (z := 3) pkX14_heights rfl ?_
          refine hd_ipush (z := 4) pkX14_heights rfl ?_
          refine hd_ipush (z := (-1)) pkX14_heights rfl ?_
          have bL := (hBE (n - 1) (by omega) (by omega)).1
          have bS := (hBE (n - 1) (by omega) (by omega)).2
          have eL : ga hj105 2498 (n - 1) = ga h 2498 (n - 1) := hO.ga (by decide) _
          have eS : ga hj105 2499 (n - 1) = ga h 2499 (n - 1) := hO.ga (by decide) _
          have ba := (pr.cur (by omega)).sz
          refine hd_callV pkX14_heights rfl (q := (KX14_put, yX14_put, 14, 5, 0)) rfl rfl rfl (As := [(0, E2), (0, (n - 1)), (0, 3), (0, 4), (0, (-1))]) (rest := []) (c := 2495) rfl rfl (Nat.le_of_ble_eq_true rfl) (gc105.cell 0 rfl).1 (gc105.cell 0 rfl).2.1 (h_X14_put (m := 1) (by omega) (by omega) (by omega) (by omega) (by rw [eL]; exact bL) (by rw [eS]; exact bS) ⟨by decide, by decide⟩ ⟨by decide, by decide⟩ (Or.inr rfl) tb ba (by decide) gc105) (hd_bV (fun hc6 pp => ?_))
          have ghc6 : Str t14 r14 hc6 := gc105.only pp.1 (by decide)
          have hO := hO.trans (pp.1.mono (by decide))
          have tb := pp.2
          rw [eL, eS] at tb
          have hE := (pp.1.ga (by decide) _).trans hE
          have hF := fun (j : Int) (j0 : 0 ≤ j) (j1 : j ≠ 17) => (pp.1.ga (by decide) j).trans (hF j j0 j1)
          obtain ⟨A1, tb, pr⟩ : ∃ A1 : Int → Int → Rat, Tab 2496 2497 hc6 A1 ∧ Prt A1 E2 O2 (plP PP (n - 1) 3 (-1) (ga h 2498 (n - 1))) (plQ QQ (n - 1) 3 (ga h 2499 (n - 1))) := ⟨_, tb, pr.put4 ⟨by omega, by omega⟩ bL bS (Or.inr rfl) (fun j hj => by
                rcases cP with ⟨c, q, _⟩ | ⟨c, q, _⟩
                · rw [q, atF_o (by omega), atF_o (by omega)]
                  rfl
                · rw [q]
                  rfl)⟩
          refine hd_aload pkX14_heights rfl rfl (Int.natCast_nonneg _) ?_
          refine hd_aload pkX14_heights rfl rfl (Int.natCast_nonneg _) ?_
          refine hd_getI pkX14_heights rfl (ghc6.cell 0 rfl).1 (ghc6.cell 0 rfl).2.1 (fun v7 ev7 rv7 => ?_)
          have qv7 : E2 = v7 := by rw [ev7]; exact hE.symm
          subst qv7
          refine hd_ipush (z := 12) pkX14_heights rfl ?_
          refine hd_ipush (z := 5) pkX14_heights rfl ?_
          refine hd_iload pkX14_heights rfl rfl ?_
          refine hd_ipush (z := 1) pkX14_heights rfl ?_
          refine hd_isub pkX14_heights rfl (by omega) ?_
          refine hd_imul pkX14_heights rfl (by omega) ?_
          refine hd_iadd pkX14_heights rfl (by omega) ?_
          refine hd_ipush (z := 4) pkX14_heights rfl ?_
          refine hd_iadd pkX14_heights rfl (by omega) ?_
          refine hd_lpush (z := (-1)) pkX14_heights rfl ?_
          refine hd_lpush (z := 1) pkX14_heights rfl ?_
          refine hd_callV pkX14_heights rfl (q := (KX14_grow, yX14_grow, 14, 4, 0)) rfl rfl rfl (As := [(0, E2), (0, ((12 + (5 * (n - 1))) + 4)), (1, (-1)), (1, 1)]) (rest := []) (c := 2495) rfl rfl (Nat.le_of_ble_eq_true rfl) (ghc6.cell 0 rfl).1 (ghc6.cell 0 rfl).2.1 (h_X14_grow (m1 := 1) (m2 := 1) (by omega) (by omega) (by omega) (by omega) (by decide) (by omega) tb ((pr.cur (by omega)).sz _ (by omega) (by omega)) (divInt_sz1 ⟨by omega, by omega⟩ ⟨by decide, by decide⟩) (by decide) ghc6) (hd_bV (fun hc8 pg => ?_))
          have ghc8 : Str t14 r14 hc8 := ghc6.only pg.1 (by decide)
          have hO := hO.trans (pg.1.mono (by decide))
          have tb := pg.2
          have hE := (pg.1.ga (by decide) _).trans hE
          have hF := fun (j : Int) (j0 : 0 ≤ j) (j1 : j ≠ 17) => (pg.1.ga (by decide) j).trans (hF j j0 j1)
          obtain ⟨A1, tb, pr⟩ : ∃ A1 : Int → Int → Rat, Tab 2496 2497 hc8 A1 ∧ Prt A1 E2 O2 (atF (plP PP (n - 1) 3 (-1) (ga h 2498 (n - 1))) (12 + 5 * (n - 1) + 4) (-1)) (atF (plQ QQ (n - 1) 3 (ga h 2499 (n - 1))) (12 + 5 * (n - 1) + 4) 1) := ⟨_, tb, pr.grow ⟨by omega, by omega⟩ ((plP_o (by omega) (by omega)).trans (by
                rcases cP with ⟨c, q, _⟩ | ⟨c, q, _⟩
                · rw [q, atF_o (by omega), atF_o (by omega)]
                  rfl
                · rw [q]
                  rfl))⟩
          refine cut132 trivial hc8 ghc8 ?_ ?_ ?_
          · exact hO
          · exact hF
          · rcases cP with ⟨c, q, q2⟩ | ⟨c, q, q2⟩
            · rw [q, q2] at pr
              have ck := ckSS (k := n - 1) ⟨by omega, by omega⟩ bL bS
              rw [show n - 1 + 1 = n by omega] at ck
              exact ⟨A1, E2, O2, _, _, _, _, hE, tb, pr, cO, ck, by decide⟩
            · rw [q, q2] at pr
              exact ⟨A1, E2, O2, _, _, _, _, hE, tb, pr, cO, (ckS (k := n - 1) ⟨by omega, by omega⟩ bL bS).2, by decide⟩
      refine hd_iload pkX14_heights rfl rfl ?_
      refine hd_aload pkX14_heights rfl rfl (Int.natCast_nonneg _) ?_
      refine hd_getI pkX14_heights rfl (gc82.cell 0 rfl).1 (gc82.cell 0 rfl).2.1 (fun v9 ev9 rv9 => ?_)
      have qv9 : M = v9 := by rw [ev9]; exact ((hF 3 (by decide) (by decide)).trans hM).symm
      subst qv9
      refine hd_ic_ge pkX14_heights rfl (fun c10 => ?_) (fun c10 => ?_)
      · skip
        refine cut105 trivial hj82 gc82 ?_ ?_ ?_
        · exact hO
        · exact hF
        · exact ⟨A1, E2, O2, _, _, hE, tb, pr, cO, Or.inr ⟨by omega, rfl, rfl⟩⟩
      · skip
        refine hd_aload pkX14_heights rfl rfl (Int.natCast_nonneg _) ?_
        refine hd_aload pkX14_heights rfl rfl (Int.natCast_nonneg _) ?_
        refine hd_getI pkX14_heights rfl (gc82.cell 0 rfl).1 (gc82.cell 0 rfl).2.1 (fun v11 ev11 rv11 => ?_)
        have qv11 : E2 = v11 := by rw [ev11]; exact hE.symm
        subst qv11
        refine hd_iload pkX14_heights rfl rfl ?_
        refine hd_ipush (z := 3) pkX14_heights rfl ?_
        refine hd_ipush (z := 0) pkX14_heights rfl ?_
        refine hd_ipush (z := 1) pkX14_heights rfl ?_
        have bL := (hBE n (by omega) (by omega)).1
        have bS := (hBE n (by omega) (by omega)).2
        have eL : ga hj82 2498 n = ga h 2498 n := hO.ga (by decide) _
        have eS : ga hj82 2499 n = ga h 2499 n := hO.ga (by decide) _
        have ba := (pr.cur (by omega)).sz
        refine hd_callV pkX14_heights rfl (q := (KX14_put, yX14_put, 14, 5, 0)) rfl rfl rfl (As := [(0, E2), (0, n), (0, 3), (0, 0), (0, 1)]) (rest := []) (c := 2495) rfl rfl (Nat.le_of_ble_eq_true rfl) (gc82.cell 0 rfl).1 (gc82.cell 0 rfl).2.1 (h_X14_put (m := 1) (by omega) (by omega) (by omega) (by omega) (by rw [eL]; exact bL) (by rw [eS]; exact bS) ⟨by decide, by decide⟩ ⟨by decide, by decide⟩ (Or.inl rfl) tb ba (by decide) gc82) (hd_bV (fun hc12 pp => ?_))
        have ghc12 : Str t14 r14 hc12 := gc82.only pp.1 (by decide)
        have hO := hO.trans (pp.1.mono (by decide))
        have tb := pp.2
        rw [eL, eS] at tb
        have hE := (pp.1.ga (by decide) _).trans hE
        have hF := fun (j : Int) (j0 : 0 ≤ j) (j1 : j ≠ 17) => (pp.1.ga (by decide) j).trans (hF j j0 j1)
        obtain ⟨A1, tb, pr⟩ : ∃ A1 : Int → Int → Rat, Tab 2496 2497 hc12 A1 ∧ Prt A1 E2 O2 (atF zP (4 * n + 3) 1) (atF oQ (4 * n + 3) 1) := ⟨_, tb, pr.put0 ⟨by omega, by omega⟩ ⟨by decide, by decide⟩ (Or.inl rfl) rfl⟩
        refine hd_aload pkX14_heights rfl rfl (Int.natCast_nonneg _) ?_
        refine hd_aload pkX14_heights rfl rfl (Int.natCast_nonneg _) ?_
        refine hd_getI pkX14_heights rfl (ghc12.cell 0 rfl).1 (ghc12.cell 0 rfl).2.1 (fun v13 ev13 rv13 => ?_)
        have qv13 : E2 = v13 := by rw [ev13]; exact hE.symm
        subst qv13
        refine hd_ipush (z := 12) pkX14_heights rfl ?_
        refine hd_ipush (z := 5) pkX14_heights rfl ?_
        refine hd_iload pkX14_heights rfl rfl ?_
        refine hd_imul pkX14_heights rfl (by omega) ?_
        refine hd_iadd pkX14_heights rfl (by omega) ?_
        refine hd_lpush (z := (-1)) pkX14_heights rfl ?_
        refine hd_lpush (z := 1) pkX14_heights rfl ?_
        refine hd_callV pkX14_heights rfl (q := (KX14_grow, yX14_grow, 14, 4, 0)) rfl rfl rfl (As := [(0, E2), (0, (12 + (5 * n))), (1, (-1)), (1, 1)]) (rest := []) (c := 2495) rfl rfl (Nat.le_of_ble_eq_true rfl) (ghc12.cell 0 rfl).1 (ghc12.cell 0 rfl).2.1 (h_X14_grow (m1 := 1) (m2 := 1) (by omega) (by omega) (by omega) (by omega) (by decide) (by omega) tb ((pr.cur (by omega)).sz _ (by omega) (by omega)) (divInt_sz1 ⟨by omega, by omega⟩ ⟨by decide, by decide⟩) (by decide) ghc12) (hd_bV (fun hc14 pg => ?_))
        have ghc14 : Str t14 r14 hc14 := ghc12.only pg.1 (by decide)
        have hO := hO.trans (pg.1.mono (by decide))
        have tb := pg.2
        have hE := (pg.1.ga (by decide) _).trans hE
        have hF := fun (j : Int) (j0 : 0 ≤ j) (j1 : j ≠ 17) => (pg.1.ga (by decide) j).trans (hF j j0 j1)
        obtain ⟨A1, tb, pr⟩ : ∃ A1 : Int → Int → Rat, Tab 2496 2497 hc14 A1 ∧ Prt A1 E2 O2 (atF (atF zP (4 * n + 3) 1) (12 + 5 * n) (-1)) (atF (atF oQ (4 * n + 3) 1) (12 + 5 * n) 1) := ⟨_, tb, pr.grow ⟨by omega, by omega⟩ ((atF_o (by omega)).trans rfl)⟩
        refine cut105 trivial hc14 ghc14 ?_ ?_ ?_
        · exact hO
        · exact hF
        · exact ⟨A1, E2, O2, _, _, hE, tb, pr, cO, Or.inl ⟨by omega, rfl, rfl⟩⟩
    refine hd_iload pkX14_heights rfl rfl ?_
    refine hd_if_le pkX14_heights rfl (fun c15 => ?_) (fun c15 => ?_)
    · skip
      refine cut82 trivial h g ?_ ?_ ?_
      · exact hO
      · exact hF
      · exact ⟨A1, _, _, hE, tb, pr, Cw.n (by omega)⟩
    · skip
      refine hd_iload pkX14_heights rfl rfl ?_
      refine hd_aload pkX14_heights rfl rfl (Int.natCast_nonneg _) ?_
      refine hd_getI pkX14_heights rfl (g.cell 0 rfl).1 (g.cell 0 rfl).2.1 (fun v16 ev16 rv16 => ?_)
      have qv16 : M = v16 := by rw [ev16]; exact ((hF 3 (by decide) (by decide)).trans hM).symm
      subst qv16
      refine hd_ic_ge pkX14_heights rfl (fun c17 => ?_) (fun c17 => ?_)
      · skip
        refine cut82 trivial h g ?_ ?_ ?_
        · exact hO
        · exact hF
        · exact ⟨A1, _, _, hE, tb, pr, Cw.n (by omega)⟩
      · skip
        refine hd_aload pkX14_heights rfl rfl (Int.natCast_nonneg _) ?_
        refine hd_aload pkX14_heights rfl rfl (Int.natCast_nonneg _) ?_
        refine hd_getI pkX14_heights rfl (g.cell 0 rfl).1 (g.cell 0 rfl).2.1 (fun v18 ev18 rv18 => ?_)
        have qv18 : e = v18 := by rw [ev18]; exact hE.symm
        subst qv18
        refine hd_iload pkX14_heights rfl rfl ?_
        refine hd_ipush (z := 1) pkX14_heights rfl ?_
        refine hd_isub pkX14_heights rfl (by omega) ?_
        refine hd_ipush (z := 0) pkX14_heights rfl ?_
        refine hd_ipush (z := 4) pkX14_heights rfl ?_
        refine hd_ipush (z := 1) pkX14_heights rfl ?_
        have bL := (hBE (n - 1) (by omega) (by omega)).1
        have bS := (hBE (n - 1) (by omega) (by omega)).2
        have eL : ga h 2498 (n - 1) = ga h 2498 (n - 1) := hO.ga (by decide) _
        have eS : ga h 2499 (n - 1) = ga h 2499 (n - 1) := hO.ga (by decide) _
        have ba := (pr.cur (by omega)).sz
        refine hd_callV pkX14_heights rfl (q := (KX14_put, yX14_put, 14, 5, 0)) rfl rfl rfl (As := [(0, e), (0, (n - 1)), (0, 0), (0, 4), (0, 1)]) (rest := []) (c := 2495) rfl rfl (Nat.le_of_ble_eq_true rfl) (g.cell 0 rfl).1 (g.cell 0 rfl).2.1 (h_X14_put (m := 1) (by omega) (by omega) (by omega) (by omega) (by rw [eL]; exact bL) (by rw [eS]; exact bS) ⟨by decide, by decide⟩ ⟨by decide, by decide⟩ (Or.inl rfl) tb ba (by decide) g) (hd_bV (fun hc19 pp => ?_))
        have ghc19 : Str t14 r14 hc19 := g.only pp.1 (by decide)
        have hO := hO.trans (pp.1.mono (by decide))
        have tb := pp.2
        rw [eL, eS] at tb
        have hE := (pp.1.ga (by decide) _).trans hE
        have hF := fun (j : Int) (j0 : 0 ≤ j) (j1 : j ≠ 17) => (pp.1.ga (by decide) j).trans (hF j j0 j1)
        obtain ⟨A1, tb, pr⟩ : ∃ A1 : Int → Int → Rat, Tab 2496 2497 hc19 A1 ∧ Prt A1 e O (plP zP (n - 1) 0 1 (ga h 2498 (n - 1))) (plQ oQ (n - 1) 0 (ga h 2499 (n - 1))) := ⟨_, tb, pr.put4 ⟨by omega, by omega⟩ bL bS (Or.inl rfl) (fun _ _ => rfl)⟩
        refine hd_aload pkX14_heights rfl rfl (Int.natCast_nonneg _) ?_
        refine hd_aload pkX14_heights rfl rfl (Int.natCast_nonneg _) ?_
        refine hd_getI pkX14_heights rfl (ghc19.cell 0 rfl).1 (ghc19.cell 0 rfl).2.1 (fun v20 ev20 rv20 => ?_)
        have qv20 : e = v20 := by rw [ev20]; exact hE.symm
        subst qv20
        refine hd_iload pkX14_heights rfl rfl ?_
        refine hd_ipush (z := 0) pkX14_heights rfl ?_
        refine hd_ipush (z := 0) pkX14_heights rfl ?_
        refine hd_ipush (z := (-1)) pkX14_heights rfl ?_
        have bL := (hBE n (by omega) (by omega)).1
        have bS := (hBE n (by omega) (by omega)).2
        have eL : ga hc19 2498 n = ga h 2498 n := hO.ga (by decide) _
        have eS : ga hc19 2499 n = ga h 2499 n := hO.ga (by decide) _
        have ba := (pr.cur (by omega)).sz
        refine hd_callV pkX14_heights rfl (q := (KX14_put, yX14_put, 14, 5, 0)) rfl rfl rfl (As := [(0, e), (0, n), (0, 0), (0, 0), (0, (-1))]) (rest := []) (c := 2495) rfl rfl (Nat.le_of_ble_eq_true rfl) (ghc19.cell 0 rfl).1 (ghc19.cell 0 rfl).2.1 (h_X14_put (m := 1) (by omega) (by omega) (by omega) (by omega) (by rw [eL]; exact bL) (by rw [eS]; exact bS) ⟨by decide, by decide⟩ ⟨by decide, by decide⟩ (Or.inr rfl) tb ba (by decide) ghc19) (hd_bV (fun hc21 pp => ?_))
        have ghc21 : Str t14 r14 hc21 := ghc19.only pp.1 (by decide)
        have hO := hO.trans (pp.1.mono (by decide))
        have tb := pp.2
        rw [eL, eS] at tb
        have hE := (pp.1.ga (by decide) _).trans hE
        have hF := fun (j : Int) (j0 : 0 ≤ j) (j1 : j ≠ 17) => (pp.1.ga (by decide) j).trans (hF j j0 j1)
        obtain ⟨A1, tb, pr⟩ : ∃ A1 : Int → Int → Rat, Tab 2496 2497 hc21 A1 ∧ Prt A1 e O (atF (plP zP (n - 1) 0 1 (ga h 2498 (n - 1))) (4 * n + 0) (-1)) (atF (plQ oQ (n - 1) 0 (ga h 2499 (n - 1))) (4 * n + 0) 1) := ⟨_, tb, pr.put0 ⟨by omega, by omega⟩ ⟨by decide, by decide⟩ (Or.inr rfl) ((plP_o (by omega) (by omega)).trans rfl)⟩
        refine hd_aload pkX14_heights rfl rfl (Int.natCast_nonneg _) ?_
        have bL := (hBE (n - 1) (by omega) (by omega)).1
        have bS := (hBE (n - 1) (by omega) (by omega)).2
        have ck := ckHH (k := n - 1) ⟨by omega, by omega⟩ bL bS
        rw [show n - 1 + 1 = n by omega] at ck
        refine hd_callV pkX14_heights rfl (q := (KX14_next, yX14_next, 14, 0, 0)) rfl rfl rfl (As := []) (rest := []) (c := 2495) rfl rfl (Nat.le_of_ble_eq_true rfl) (ghc21.cell 0 rfl).1 (ghc21.cell 0 rfl).2.1 (h_X14_next hE ⟨by omega, by omega⟩ ghc21) (hd_bV (fun hc22 pn => ?_))
        have ghc22 : Str t14 r14 hc22 := ghc21.but pn.1 pn.2.2 (by decide)
        have hO := hO.trans (pn.1.mono (by decide))
        have tb := tb.only pn.1 (by decide) (by decide)
        have hE := pn.2.1
        have hF := fun (j : Int) (j0 : 0 ≤ j) (j1 : j ≠ 17) => (pn.2.2 j j0 j1).trans (hF j j0 j1)
        have pr : Prt A1 (e + 1) (O * 4896) zP oQ := pr.done (by omega) rfl ck (by decide)
        refine cut82 trivial hc22 ghc22 ?_ ?_ ?_
        · exact hO
        · exact hF
        · exact ⟨A1, _, _, hE, tb, pr, Cw.y (by omega)⟩
  · skip
    have cut30 : ∀ (_ : True) (hj30 : MH), Str t14 r14 hj30 → (Only [2496, 2497, 2495] h hj30) → (∀ j : Int, 0 ≤ j → j ≠ 17 → ga hj30 2495 j = ga h 2495 j) → (∃ A1 : Int → Int → Rat, ∃ E2 : Int, ∃ O2 : Rat, ga hj30 2495 17 = E2 ∧ Tab 2496 2497 hj30 A1 ∧ Prt A1 E2 O2 zP oQ ∧ (Cw (0 < n) E2 e O2 O 4896)) → MW KX14_heights Q 0 0 (pcA pgX14_heights 30) [(0, (2, ((2495 : Nat) : Int))), (1, (0, n))] [] hj30 := by
      intro _ hj30 gc30 hO hF tbx
      obtain ⟨A1, E2, O2, hE, tb, pr, cO⟩ := tbx
      have cE := cO.e
      refine hd_iload pkX14_heights rfl rfl ?_
      refine hd_aload pkX14_heights rfl rfl (Int.natCast_nonneg _) ?_
      refine hd_getI pkX14_heights rfl (gc30.cell 0 rfl).1 (gc30.cell 0 rfl).2.1 (fun v23 ev23 rv23 => ?_)
      have qv23 : M = v23 := by rw [ev23]; exact ((hF 3 (by decide) (by decide)).trans hM).symm
      subst qv23
      refine hd_ic_ge pkX14_heights rfl (fun c24 => ?_) (fun c24 => ?_)
      · skip
        refine hd_vret pkX14_heights rfl ?_
        subst eQ
        refine ⟨rfl, hO, hE.trans (by omega), hF, A1, tb, ?_⟩
        rw [show e9 = E2 by omega]
        exact pr.up (hb_a (M := M) cO (by omega) (hB3 (by omega)))
      · skip
        refine hd_aload pkX14_heights rfl rfl (Int.natCast_nonneg _) ?_
        refine hd_aload pkX14_heights rfl rfl (Int.natCast_nonneg _) ?_
        refine hd_getI pkX14_heights rfl (gc30.cell 0 rfl).1 (gc30.cell 0 rfl).2.1 (fun v25 ev25 rv25 => ?_)
        have qv25 : E2 = v25 := by rw [ev25]; exact hE.symm
        subst qv25
        refine hd_iload pkX14_heights rfl rfl ?_
        refine hd_ipush (z := 0) pkX14_heights rfl ?_
        refine hd_ipush (z := 0) pkX14_heights rfl ?_
        refine hd_ipush (z := 1) pkX14_heights rfl ?_
        have bL := (hBE n (by omega) (by omega)).1
        have bS := (hBE n (by omega) (by omega)).2
        have eL : ga hj30 2498 n = ga h 2498 n := hO.ga (by decide) _
        have eS : ga hj30 2499 n = ga h 2499 n := hO.ga (by decide) _
        have ba := (pr.cur (by omega)).sz
        refine hd_callV pkX14_heights rfl (q := (KX14_put, yX14_put, 14, 5, 0)) rfl rfl rfl (As := [(0, E2), (0, n), (0, 0), (0, 0), (0, 1)]) (rest := []) (c := 2495) rfl rfl (Nat.le_of_ble_eq_true rfl) (gc30.cell 0 rfl).1 (gc30.cell 0 rfl).2.1 (h_X14_put (m := 1) (by omega) (by omega) (by omega) (by omega) (by rw [eL]; exact bL) (by rw [eS]; exact bS) ⟨by decide, by decide⟩ ⟨by decide, by decide⟩ (Or.inl rfl) tb ba (by decide) gc30) (hd_bV (fun hc26 pp => ?_))
        have ghc26 : Str t14 r14 hc26 := gc30.only pp.1 (by decide)
        have hO := hO.trans (pp.1.mono (by decide))
        have tb := pp.2
        rw [eL, eS] at tb
        have hE := (pp.1.ga (by decide) _).trans hE
        have hF := fun (j : Int) (j0 : 0 ≤ j) (j1 : j ≠ 17) => (pp.1.ga (by decide) j).trans (hF j j0 j1)
        obtain ⟨A1, tb, pr⟩ : ∃ A1 : Int → Int → Rat, Tab 2496 2497 hc26 A1 ∧ Prt A1 E2 O2 (atF zP (4 * n + 0) 1) (atF oQ (4 * n + 0) 1) := ⟨_, tb, pr.put0 ⟨by omega, by omega⟩ ⟨by decide, by decide⟩ (Or.inl rfl) rfl⟩
        refine hd_aload pkX14_heights rfl rfl (Int.natCast_nonneg _) ?_
        refine hd_aload pkX14_heights rfl rfl (Int.natCast_nonneg _) ?_
        refine hd_getI pkX14_heights rfl (ghc26.cell 0 rfl).1 (ghc26.cell 0 rfl).2.1 (fun v27 ev27 rv27 => ?_)
        have qv27 : E2 = v27 := by rw [ev27]; exact hE.symm
        subst qv27
        refine hd_ipush (z := 27) pkX14_heights rfl ?_
        refine hd_aload pkX14_heights rfl rfl (Int.natCast_nonneg _) ?_
        refine hd_getR (n := 2503) pkX14_heights rfl (ghc26.cell 0 rfl).1 (ghc26.cell 0 rfl).2.1 (ghc26.ref 7 rfl) ?_
        refine hd_iload pkX14_heights rfl rfl ?_
        refine hd_iald (n := 4) pkX14_heights rfl (ghc26.cell 8 rfl) (by omega) (by omega) (fun v28 ev28 rv28 => ?_)
        have bs : -1000 ≤ v28 ∧ v28 ≤ 1000 := by rw [ev28, hO.ga (by decide) _]; exact hs n hn hnM
        refine hd_i2l pkX14_heights rfl ?_
        refine hd_lpush (z := 1) pkX14_heights rfl ?_
        refine hd_callV pkX14_heights rfl (q := (KX14_grow, yX14_grow, 14, 4, 0)) rfl rfl rfl (As := [(0, E2), (0, 27), (1, v28), (1, 1)]) (rest := []) (c := 2495) rfl rfl (Nat.le_of_ble_eq_true rfl) (ghc26.cell 0 rfl).1 (ghc26.cell 0 rfl).2.1 (h_X14_grow (m1 := 1) (m2 := 1) (by omega) (by omega) (by omega) (by omega) (by decide) (by omega) tb ((pr.cur (by omega)).sz _ (by omega) (by omega)) (divInt_sz1 ⟨by omega, by omega⟩ ⟨by decide, by decide⟩) (by decide) ghc26) (hd_bV (fun hc29 pg => ?_))
        have ghc29 : Str t14 r14 hc29 := ghc26.only pg.1 (by decide)
        have hO := hO.trans (pg.1.mono (by decide))
        have tb := pg.2
        have hE := (pg.1.ga (by decide) _).trans hE
        have hF := fun (j : Int) (j0 : 0 ≤ j) (j1 : j ≠ 17) => (pg.1.ga (by decide) j).trans (hF j j0 j1)
        obtain ⟨A1, tb, pr⟩ : ∃ A1 : Int → Int → Rat, Tab 2496 2497 hc29 A1 ∧ Prt A1 E2 O2 (atF (atF zP (4 * n + 0) 1) 27 v28) (atF (atF oQ (4 * n + 0) 1) 27 1) := ⟨_, tb, pr.grow ⟨by omega, by omega⟩ ((atF_o (by omega)).trans rfl)⟩
        refine hd_aload pkX14_heights rfl rfl (Int.natCast_nonneg _) ?_
        refine hd_callV pkX14_heights rfl (q := (KX14_next, yX14_next, 14, 0, 0)) rfl rfl rfl (As := []) (rest := []) (c := 2495) rfl rfl (Nat.le_of_ble_eq_true rfl) (ghc29.cell 0 rfl).1 (ghc29.cell 0 rfl).2.1 (h_X14_next hE ⟨by omega, by omega⟩ ghc29) (hd_bV (fun hc30 pn => ?_))
        have ghc30 : Str t14 r14 hc30 := ghc29.but pn.1 pn.2.2 (by decide)
        have hO := hO.trans (pn.1.mono (by decide))
        have tb := tb.only pn.1 (by decide) (by decide)
        have hE := pn.2.1
        have hF := fun (j : Int) (j0 : 0 ≤ j) (j1 : j ≠ 17) => (pn.2.2 j j0 j1).trans (hF j j0 j1)
        have pr : Prt A1 (E2 + 1) (O2 * 2) zP oQ := pr.doneS (by omega) rfl (ck1 ⟨by omega, by omega⟩ ⟨by decide, by decide⟩ (Or.inl rfl)) ((atF_o (by omega)).trans rfl) ((atF_o (by omega)).trans rfl) bs (by decide) (by decide)
        refine hd_vret pkX14_heights rfl ?_
        subst eQ
        refine ⟨rfl, hO, hE.trans (by omega), hF, A1, tb, ?_⟩
        rw [show e9 = E2 + 1 by omega]
        exact pr.up (hb_b O0 hn cO (by omega) hB1 hB2)
    refine hd_iload pkX14_heights rfl rfl ?_
    refine hd_if_le pkX14_heights rfl (fun c31 => ?_) (fun c31 => ?_)
    · skip
      refine cut30 trivial h g ?_ ?_ ?_
      · exact hO
      · exact hF
      · exact ⟨A1, _, _, hE, tb, pr, Cw.n (by omega)⟩
    · skip
      refine hd_aload pkX14_heights rfl rfl (Int.natCast_nonneg _) ?_
      refine hd_aload pkX14_heights rfl rfl (Int.natCast_nonneg _) ?_
      refine hd_getI pkX14_heights rfl (g.cell 0 rfl).1 (g.cell 0 rfl).2.1 (fun v32 ev32 rv32 => ?_)
      have qv32 : e = v32 := by rw [ev32]; exact hE.symm
      subst qv32
      refine hd_iload pkX14_heights rfl rfl ?_
      refine hd_ipush (z := 1) pkX14_heights rfl ?_
      refine hd_isub pkX14_heights rfl (by omega) ?_
      refine hd_ipush (z := 0) pkX14_heights rfl ?_
      refine hd_ipush (z := 4) pkX14_heights rfl ?_
      refine hd_ipush (z := 1) pkX14_heights rfl ?_
      have bL := (hBE (n - 1) (by omega) (by omega)).1
      have bS := (hBE (n - 1) (by omega) (by omega)).2
      have eL : ga h 2498 (n - 1) = ga h 2498 (n - 1) := hO.ga (by decide) _
      have eS : ga h 2499 (n - 1) = ga h 2499 (n - 1) := hO.ga (by decide) _
      have ba := (pr.cur (by omega)).sz
      refine hd_callV pkX14_heights rfl (q := (KX14_put, yX14_put, 14, 5, 0)) rfl rfl rfl (As := [(0, e), (0, (n - 1)), (0, 0), (0, 4), (0, 1)]) (rest := []) (c := 2495) rfl rfl (Nat.le_of_ble_eq_true rfl) (g.cell 0 rfl).1 (g.cell 0 rfl).2.1 (h_X14_put (m := 1) (by omega) (by omega) (by omega) (by omega) (by rw [eL]; exact bL) (by rw [eS]; exact bS) ⟨by decide, by decide⟩ ⟨by decide, by decide⟩ (Or.inl rfl) tb ba (by decide) g) (hd_bV (fun hc33 pp => ?_))
      have ghc33 : Str t14 r14 hc33 := g.only pp.1 (by decide)
      have hO := hO.trans (pp.1.mono (by decide))
      have tb := pp.2
      rw [eL, eS] at tb
      have hE := (pp.1.ga (by decide) _).trans hE
      have hF := fun (j : Int) (j0 : 0 ≤ j) (j1 : j ≠ 17) => (pp.1.ga (by decide) j).trans (hF j j0 j1)
      obtain ⟨A1, tb, pr⟩ : ∃ A1 : Int → Int → Rat, Tab 2496 2497 hc33 A1 ∧ Prt A1 e O (plP zP (n - 1) 0 1 (ga h 2498 (n - 1))) (plQ oQ (n - 1) 0 (ga h 2499 (n - 1))) := ⟨_, tb, pr.put4 ⟨by omega, by omega⟩ bL bS (Or.inl rfl) (fun _ _ => rfl)⟩
      refine hd_aload pkX14_heights rfl rfl (Int.natCast_nonneg _) ?_
      refine hd_aload pkX14_heights rfl rfl (Int.natCast_nonneg _) ?_
      refine hd_getI pkX14_heights rfl (ghc33.cell 0 rfl).1 (ghc33.cell 0 rfl).2.1 (fun v34 ev34 rv34 => ?_)
      have qv34 : e = v34 := by rw [ev34]; exact hE.symm
      subst qv34
      refine hd_ipush (z := 27) pkX14_heights rfl ?_
      refine hd_aload pkX14_heights rfl rfl (Int.natCast_nonneg _) ?_
      refine hd_getR (n := 2503) pkX14_heights rfl (ghc33.cell 0 rfl).1 (ghc33.cell 0 rfl).2.1 (ghc33.ref 7 rfl) ?_
      refine hd_iload pkX14_heights rfl rfl ?_
      refine hd_iald (n := 4) pkX14_heights rfl (ghc33.cell 8 rfl) (by omega) (by omega) (fun v35 ev35 rv35 => ?_)
      have bs : -1000 ≤ v35 ∧ v35 ≤ 1000 := by rw [ev35, hO.ga (by decide) _]; exact hs n hn hnM
      refine hd_i2l pkX14_heights rfl ?_
      refine hd_lpush (z := 1) pkX14_heights rfl ?_
      refine hd_callV pkX14_heights rfl (q := (KX14_grow, yX14_grow, 14, 4, 0)) rfl rfl rfl (As := [(0, e), (0, 27), (1, v35), (1, 1)]) (rest := []) (c := 2495) rfl rfl (Nat.le_of_ble_eq_true rfl) (ghc33.cell 0 rfl).1 (ghc33.cell 0 rfl).2.1 (h_X14_grow (m1 := 1) (m2 := 1) (by omega) (by omega) (by omega) (by omega) (by decide) (by omega) tb ((pr.cur (by omega)).sz _ (by omega) (by omega)) (divInt_sz1 ⟨by omega, by omega⟩ ⟨by decide, by decide⟩) (by decide) ghc33) (hd_bV (fun hc36 pg => ?_))
      have ghc36 : Str t14 r14 hc36 := ghc33.only pg.1 (by decide)
      have hO := hO.trans (pg.1.mono (by decide))
      have tb := pg.2
      have hE := (pg.1.ga (by decide) _).trans hE
      have hF := fun (j : Int) (j0 : 0 ≤ j) (j1 : j ≠ 17) => (pg.1.ga (by decide) j).trans (hF j j0 j1)
      obtain ⟨A1, tb, pr⟩ : ∃ A1 : Int → Int → Rat, Tab 2496 2497 hc36 A1 ∧ Prt A1 e O (atF (plP zP (n - 1) 0 1 (ga h 2498 (n - 1))) 27 v35) (atF (plQ oQ (n - 1) 0 (ga h 2499 (n - 1))) 27 1) := ⟨_, tb, pr.grow ⟨by omega, by omega⟩ ((plP_o (by omega) (by omega)).trans rfl)⟩
      refine hd_aload pkX14_heights rfl rfl (Int.natCast_nonneg _) ?_
      refine hd_callV pkX14_heights rfl (q := (KX14_next, yX14_next, 14, 0, 0)) rfl rfl rfl (As := []) (rest := []) (c := 2495) rfl rfl (Nat.le_of_ble_eq_true rfl) (ghc36.cell 0 rfl).1 (ghc36.cell 0 rfl).2.1 (h_X14_next hE ⟨by omega, by omega⟩ ghc36) (hd_bV (fun hc37 pn => ?_))
      have ghc37 : Str t14 r14 hc37 := ghc36.but pn.1 pn.2.2 (by decide)
      have hO := hO.trans (pn.1.mono (by decide))
      have tb := tb.only pn.1 (by decide) (by decide)
      have hE := pn.2.1
      have hF := fun (j : Int) (j0 : 0 ≤ j) (j1 : j ≠ 17) => (pn.2.2 j j0 j1).trans (hF j j0 j1)
      have pr : Prt A1 (e + 1) (O * 4896) zP oQ := pr.doneS (by omega) rfl (ckH ⟨by omega, by omega⟩ bL bS) ((plP_o (by omega) (by omega)).trans rfl) ((plQ_o (by omega) (by omega)).trans rfl) bs (by omega) (by decide)
      refine cut30 trivial hc37 ghc37 ?_ ?_ ?_
      · exact hO
      · exact hF
      · exact ⟨A1, _, _, hE, tb, pr, Cw.y (by omega)⟩
