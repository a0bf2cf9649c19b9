set_option maxRecDepth 20000 in
set_option maxHeartbeats 8000000 in
theorem h_X14_turns {h : MH} {n e e9 M : Int} {O O9 : Rat} {A1 : Int → Int → Rat} (hn : 0 ≤ n) (hnM : n ≤ M) (hM1 : 1 ≤ M) (hM3 : M ≤ 3) (hM : ga h 2495 3 = M) (hE : ga h 2495 17 = e) (he1 : e < 12) (he2 : 0 < n → n < M → e < 11) (hq : (0 < n ∧ n < M ∧ e9 = e + 2) ∨ (¬(0 < n ∧ n < M) ∧ e9 = e + 1)) (hB1 : n = 0 → O * 2 ≤ O9) (hB2 : 0 < n → n < M → O * 9360 ≤ O9) (hB3 : n = M → O * 336 ≤ O9) (hBE : ∀ k : Int, 0 ≤ k → k < M → (1 ≤ ga h 2498 k ∧ ga h 2498 k ≤ 12) ∧ (1 ≤ ga h 2499 k ∧ ga h 2499 k ≤ 12)) (tb : Tab 2496 2497 h A1) (pr : Prt A1 e O zP oQ) (g : Str t14 r14 h) : MCal KX14_turns yX14_turns 0 0 [(2, ((2495 : Nat) : Int)), (0, n)] h (mRV fun h' => Only [2496, 2497, 2495] h h' ∧ ga h' 2495 17 = e9 ∧ (∀ j : Int, 0 ≤ j → j ≠ 17 → ga h' 2495 j = ga h 2495 j) ∧ ∃ A2 : Int → Int → Rat, Tab 2496 2497 h' A2 ∧ Prt A2 e9 O9 zP oQ) := by
  refine MCal.ofMW (Or.inl rfl) ⟨cp_X14, rfl⟩ (Nat.le_of_ble_eq_true rfl) ?_
  generalize eQ : (mRV fun h' => Only [2496, 2497, 2495] h h' ∧ ga h' 2495 17 = e9 ∧ (∀ j : Int, 0 ≤ j → j ≠ 17 → ga h' 2495 j = ga h 2495 j) ∧ ∃ A2 : Int → Int → Rat, Tab 2496 2497 h' A2 ∧ Prt A2 e9 O9 zP oQ : MO → MH → Prop) = Q
  change MW KX14_turns Q 0 0 (pcA pgX14_turns 0) [(0, (2, ((2495 : Nat) : Int))), (1, (0, n))] [] h
  refine hd_locI (i := 1) rfl (fun rn => ?_)
  have hO : Only [2496, 2497, 2495] h h := Only.refl _ _
  have hF : ∀ j : Int, 0 ≤ j → j ≠ 17 → ga h 2495 j = ga h 2495 j := fun _ _ _ => rfl
  have O0 := pr.nn
  have e0 := pr.e0
  have cut14 : ∀ (lf : Int), ((lf = 1 ∧ 0 < n) ∨ lf = 0) → MW KX14_turns Q 0 0 (pcA pgX14_turns 14) [(0, (2, ((2495 : Nat) : Int))), (1, (0, n))] [(0, lf)] h := by
    intro lf lv
    refine hd_istore pkX14_turns rfl rfl ?_
    change MW _ _ _ _ _ [(2, (0, lf)), (0, (2, ((2495 : Nat) : Int))), (1, (0, n))] _ _
    have cut29 : ∀ (rg : Int), ((rg = 1 ∧ n < M) ∨ rg = 0) → MW KX14_turns Q 0 0 (pcA pgX14_turns 29) [(0, (2, ((2495 : Nat) : Int))), (1, (0, n)), (2, (0, lf))] [(0, rg)] h := by
      intro rg rv
      refine hd_istore pkX14_turns rfl rfl ?_
      change MW _ _ _ _ _ [(3, (0, rg)), (0, (2, ((2495 : Nat) : Int))), (1, (0, n)), (2, (0, lf))] _ _
      have cut46 : ∀ (_ : True) (hj46 : MH), Str t14 r14 hj46 → (Only [2496, 2497, 2495] h hj46) → (∀ j : Int, 0 ≤ j → j ≠ 17 → ga hj46 2495 j = ga h 2495 j) → (∃ A1 : Int → Int → Rat, ∃ E2 : Int, ∃ O2 : Rat, ga hj46 2495 17 = E2 ∧ Tab 2496 2497 hj46 A1 ∧ Prt A1 E2 O2 zP oQ ∧ (Cw (0 < n ∧ lf = 0) E2 e O2 O 25)) → MW KX14_turns Q 0 0 (pcA pgX14_turns 46) [(0, (2, ((2495 : Nat) : Int))), (1, (0, n)), (2, (0, lf)), (3, (0, rg))] [] hj46 := by
        intro _ hj46 gc46 hO hF tbx
        obtain ⟨A1, E2, O2, hE, tb, pr, x2⟩ := tbx
        have y2 := x2.e
        have cut62 : ∀ (_ : True) (hj62 : MH), Str t14 r14 hj62 → (Only [2496, 2497, 2495] h hj62) → (∀ j : Int, 0 ≤ j → j ≠ 17 → ga hj62 2495 j = ga h 2495 j) → (∃ A1 : Int → Int → Rat, ∃ E3 : Int, ∃ O3 : Rat, ga hj62 2495 17 = E3 ∧ Tab 2496 2497 hj62 A1 ∧ Prt A1 E3 O3 zP oQ ∧ (Cw (n < M ∧ rg = 0) E3 E2 O3 O2 2)) → MW KX14_turns Q 0 0 (pcA pgX14_turns 62) [(0, (2, ((2495 : Nat) : Int))), (1, (0, n)), (2, (0, lf)), (3, (0, rg))] [] hj62 := by
          intro _ hj62 gc62 hO hF tbx
          obtain ⟨A1, E3, O3, hE, tb, pr, x3⟩ := tbx
          have y3 := x3.e
          refine hd_aload pkX14_turns rfl rfl (Int.natCast_nonneg _) ?_
          refine hd_getR (n := 2501) pkX14_turns rfl (gc62.cell 0 rfl).1 (gc62.cell 0 rfl).2.1 (gc62.ref 5 rfl) ?_
          refine hd_iload pkX14_turns rfl rfl ?_
          refine hd_zald (n := 4) pkX14_turns rfl (gc62.cell 6 rfl) (by omega) (by omega) (fun v1 ev1 rv1 => ?_)
          refine hd_if_eq pkX14_turns rfl (fun c2 => ?_) (fun c2 => ?_)
          · skip
            have cut118 : ∀ (_ : True) (hj118 : MH), Str t14 r14 hj118 → (Only [2496, 2497, 2495] h hj118) → (∀ j : Int, 0 ≤ j → j ≠ 17 → ga hj118 2495 j = ga h 2495 j) → (∃ A1 : Int → Int → Rat, ∃ E4 : Int, ∃ O4 : Rat, ga hj118 2495 17 = E4 ∧ Tab 2496 2497 hj118 A1 ∧ Prt A1 E4 O4 zP oQ ∧ (Cw (lf = 1 ∧ rg = 1) E4 E3 O4 O3 360)) → MW KX14_turns Q 0 0 (pcA pgX14_turns 118) [(0, (2, ((2495 : Nat) : Int))), (1, (0, n)), (2, (0, lf)), (3, (0, rg))] [] hj118 := by
              intro _ hj118 gc118 hO hF tbx
              obtain ⟨A1, E4, O4, hE, tb, pr, x4⟩ := tbx
              have y4 := x4.e
              have cut122 : ∀ (_ : True), (lf = 1 ∨ rg = 1) → MW KX14_turns Q 0 0 (pcA pgX14_turns 122) [(0, (2, ((2495 : Nat) : Int))), (1, (0, n)), (2, (0, lf)), (3, (0, rg))] [] hj118 := by
                intro _ lr
                have cut134 : ∀ (_ : True) (hj134 : MH), Str t14 r14 hj134 → (Only [2496, 2497, 2495] h hj134) → (∀ j : Int, 0 ≤ j → j ≠ 17 → ga hj134 2495 j = ga h 2495 j) → (∃ A1 : Int → Int → Rat, ∃ PP QQ : Int → Int, ga hj134 2495 17 = E4 ∧ Tab 2496 2497 hj134 A1 ∧ Prt A1 E4 O4 PP QQ ∧ ((lf = 1 ∧ PP = (plP zP (n - 1) 2 1 (ga h 2498 (n - 1))) ∧ QQ = (plQ oQ (n - 1) 2 (ga h 2499 (n - 1)))) ∨ (lf = 0 ∧ PP = zP ∧ QQ = oQ))) → MW KX14_turns Q 0 0 (pcA pgX14_turns 134) [(0, (2, ((2495 : Nat) : Int))), (1, (0, n)), (2, (0, lf)), (3, (0, rg))] [] hj134 := by
                  intro _ hj134 gc134 hO hF tbx
                  obtain ⟨A1, PP, QQ, hE, tb, pr, cP⟩ := tbx
                  have cut144 : ∀ (_ : True) (hj144 : MH), Str t14 r14 hj144 → (Only [2496, 2497, 2495] h hj144) → (∀ j : Int, 0 ≤ j → j ≠ 17 → ga hj144 2495 j = ga h 2495 j) → (∃ A1 : Int → Int → Rat, ∃ PP QQ : Int → Int, ∃ u v : Int, ∃ w : Rat, ga hj144 2495 17 = E4 ∧ Tab 2496 2497 hj144 A1 ∧ Prt A1 E4 O4 PP QQ ∧ (RWc PP QQ 1 u v = true) ∧ (((u + v : Int) : Rat) ≤ w) ∧ ((lf = 1 ∧ rg = 1 ∧ w = 26) ∨ (lf = 1 ∧ rg = 0 ∧ w = 25) ∨ (lf = 0 ∧ rg = 1 ∧ w = 2) ∨ (lf = 0 ∧ rg = 0 ∧ w = 1))) → MW KX14_turns Q 0 0 (pcA pgX14_turns 144) [(0, (2, ((2495 : Nat) : Int))), (1, (0, n)), (2, (0, lf)), (3, (0, rg))] [] hj144 := by
                    intro _ hj144 gc144 hO hF tbx
                    obtain ⟨A1, PP, QQ, u, v, w, hE, tb, pr, ck, ew, cw⟩ := tbx
                    refine hd_aload pkX14_turns rfl rfl (Int.natCast_nonneg _) ?_
                    refine hd_callV pkX14_turns rfl (q := (KX14_next, yX14_next, 14, 0, 0)) rfl rfl rfl (As := []) (rest := []) (c := 2495) rfl rfl (Nat.le_of_ble_eq_true rfl) (gc144.cell 0 rfl).1 (gc144.cell 0 rfl).2.1 (h_X14_next hE ⟨by omega, by omega⟩ gc144) (hd_bV (fun hc3 pn => ?_))
                    have ghc3 : Str t14 r14 hc3 := gc144.but pn.1 pn.2.2 (by decide)
                    have hO := hO.trans (pn.1.mono (by decide))
                    have tb := tb.only pn.1 (by decide) (by decide)
                    have hE := pn.2.1
                    have hF := fun (j : Int) (j0 : 0 ≤ j) (j1 : j ≠ 17) => (pn.2.2 j j0 j1).trans (hF j j0 j1)
                    have pr : Prt A1 (E4 + 1) (O4 * w) zP oQ := pr.done (by omega) rfl ck ew
                    refine hd_vret pkX14_turns rfl ?_
                    subst eQ
                    refine ⟨rfl, hO, hE.trans (by omega), hF, A1, tb, ?_⟩
                    rw [show e9 = E4 + 1 by omega]
                    exact pr.up (tu_b O0 hn hM1 hnM lv rv x2 x3 x4 cw hB1 hB2 hB3)
                  refine hd_iload pkX14_turns rfl rfl ?_
                  refine hd_if_eq pkX14_turns rfl (fun c4 => ?_) (fun c4 => ?_)
                  · skip
                    refine cut144 trivial hj134 gc134 ?_ ?_ ?_
                    · exact hO
                    · exact hF
                    · rcases cP with ⟨c, q, q2⟩ | ⟨c, q, q2⟩
                      · rw [q, q2] at pr
                        have bd := hBE (n - 1) (by omega) (by omega)
                        exact ⟨A1, _, _, _, _, 25, hE, tb, pr, ckM (k := n - 1) ⟨by omega, by omega⟩ bd.1 bd.2, by decide, Or.inr (Or.inl ⟨c, by omega, rfl⟩)⟩
                      · exfalso
                        omega
                  · skip
                    refine hd_aload pkX14_turns rfl rfl (Int.natCast_nonneg _) ?_
                    refine hd_aload pkX14_turns rfl rfl (Int.natCast_nonneg _) ?_
                    refine hd_getI pkX14_turns rfl (gc134.cell 0 rfl).1 (gc134.cell 0 rfl).2.1 (fun v5 ev5 rv5 => ?_)
                    have qv5 : E4 = v5 := by rw [ev5]; exact hE.symm
                    subst qv5
                    refine hd_iload pkX14_turns rfl rfl ?_
                    refine hd_ipush (z := 2) pkX14_turns rfl ?_
                    refine hd_ipush (z := 0) pkX14_turns rfl ?_
                    refine hd_ipush (z := (-1)) pkX14_turns rfl ?_
                    have bL := (hBE n (by omega) (by omega)).1
                    have bS := (hBE n (by omega) (by omega)).2
                    have eL : ga hj134 2498 n = ga h 2498 n := hO.ga (by decide) _
                    have eS : ga hj134 2499 n = ga h 2499 n := hO.ga (by decide) _
                    have ba := (pr.cur (by omega)).sz
                    refine hd_callV pkX14_turns rfl (q := (KX14_put, yX14_put, 14, 5, 0)) rfl rfl rfl (As := [(0, E4), (0, n), (0, 2), (0, 0), (0, (-1))]) (rest := []) (c := 2495) rfl rfl (Nat.le_of_ble_eq_true rfl) (gc134.cell 0 rfl).1 (gc134.cell 0 rfl).2.1 (h_X14_put (m := 1) (by omega) (by omega) (by omega) (by omega) (by rw [eL]; exact bL) (by rw [eS]; exact bS) ⟨by decide, by decide⟩ ⟨by decide, by decide⟩ (Or.inr rfl) tb ba (by decide) gc134) (hd_bV (fun hc6 pp => ?_))
                    have ghc6 : Str t14 r14 hc6 := gc134.only pp.1 (by decide)
                    have hO := hO.trans (pp.1.mono (by decide))
                    have tb := pp.2
                    rw [eL, eS] at tb
                    have hE := (pp.1.ga (by decide) _).trans hE
                    have hF := fun (j : Int) (j0 : 0 ≤ j) (j1 : j ≠ 17) => (pp.1.ga (by decide) j).trans (hF j j0 j1)
                    obtain ⟨A1, tb, pr⟩ : ∃ A1 : Int → Int → Rat, Tab 2496 2497 hc6 A1 ∧ Prt A1 E4 O4 (atF PP (4 * n + 2) (-1)) (atF QQ (4 * n + 2) 1) := ⟨_, tb, pr.put0 ⟨by omega, by omega⟩ ⟨by decide, by decide⟩ (Or.inr rfl) (by
                          rcases cP with ⟨c, q, _⟩ | ⟨c, q, _⟩
                          · rw [q, plP_o (by omega) (by omega)]
                            rfl
                          · rw [q]
                            rfl)⟩
                    refine cut144 trivial hc6 ghc6 ?_ ?_ ?_
                    · exact hO
                    · exact hF
                    · rcases cP with ⟨c, q, q2⟩ | ⟨c, q, q2⟩
                      · rw [q, q2] at pr
                        have bd := hBE (n - 1) (by omega) (by omega)
                        have ck := ckMM (k := n - 1) ⟨by omega, by omega⟩ bd.1 bd.2
                        rw [show n - 1 + 1 = n by omega] at ck
                        exact ⟨A1, _, _, _, _, 26, hE, tb, pr, ck, by decide, Or.inl ⟨c, by omega, rfl⟩⟩
                      · rw [q, q2] at pr
                        exact ⟨A1, _, _, _, _, 2, hE, tb, pr, ck1 ⟨by omega, by omega⟩ ⟨by decide, by decide⟩ (Or.inr rfl), by decide, Or.inr (Or.inr (Or.inl ⟨c, by omega, rfl⟩))⟩
                refine hd_iload pkX14_turns rfl rfl ?_
                refine hd_if_eq pkX14_turns rfl (fun c7 => ?_) (fun c7 => ?_)
                · skip
                  refine cut134 trivial hj118 gc118 ?_ ?_ ?_
                  · exact hO
                  · exact hF
                  · exact ⟨A1, _, _, hE, tb, pr, Or.inr ⟨by omega, rfl, rfl⟩⟩
                · skip
                  refine hd_aload pkX14_turns rfl rfl (Int.natCast_nonneg _) ?_
                  refine hd_aload pkX14_turns rfl rfl (Int.natCast_nonneg _) ?_
                  refine hd_getI pkX14_turns rfl (gc118.cell 0 rfl).1 (gc118.cell 0 rfl).2.1 (fun v8 ev8 rv8 => ?_)
                  have qv8 : E4 = v8 := by rw [ev8]; exact hE.symm
                  subst qv8
                  refine hd_iload pkX14_turns rfl rfl ?_
                  refine hd_ipush (z := 1) pkX14_turns rfl ?_
                  refine hd_isub pkX14_turns rfl (by omega) ?_
                  refine hd_ipush (z := 2) pkX14_turns rfl ?_
                  refine hd_ipush (z := 4) pkX14_turns rfl ?_
                  refine hd_ipush (z := 1) pkX14_turns rfl ?_
                  have bL := (hBE (n - 1) (by omega) (by omega)).1
                  have bS := (hBE (n - 1) (by omega) (by omega)).2
                  have eL : ga hj118 2498 (n - 1) = ga h 2498 (n - 1) := hO.ga (by decide) _
                  have eS : ga hj118 2499 (n - 1) = ga h 2499 (n - 1) := hO.ga (by decide) _
                  have ba := (pr.cur (by omega)).sz
                  refine hd_callV pkX14_turns rfl (q := (KX14_put, yX14_put, 14, 5, 0)) rfl rfl rfl (As := [(0, E4), (0, (n - 1)), (0, 2), (0, 4), (0, 1)]) (rest := []) (c := 2495) rfl rfl (Nat.le_of_ble_eq_true rfl) (gc118.cell 0 rfl).1 (gc118.cell 0 rfl).2.1 (h_X14_put (m := 1) (by omega) (by omega) (by omega) (by omega) (by rw [eL]; exact bL) (by rw [eS]; exact bS) ⟨by decide, by decide⟩ ⟨by decide, by decide⟩ (Or.inl rfl) tb ba (by decide) gc118) (hd_bV (fun hc9 pp => ?_))
                  have ghc9 : Str t14 r14 hc9 := gc118.only pp.1 (by decide)
                  have hO := hO.trans (pp.1.mono (by decide))
                  have tb := pp.2
                  rw [eL, eS] at tb
                  have hE := (pp.1.ga (by decide) _).trans hE
                  have hF := fun (j : Int) (j0 : 0 ≤ j) (j1 : j ≠ 17) => (pp.1.ga (by decide) j).trans (hF j j0 j1)
                  obtain ⟨A1, tb, pr⟩ : ∃ A1 : Int → Int → Rat, Tab 2496 2497 hc9 A1 ∧ Prt A1 E4 O4 (plP zP (n - 1) 2 1 (ga h 2498 (n - 1))) (plQ oQ (n - 1) 2 (ga h 2499 (n - 1))) := ⟨_, tb, pr.put4 ⟨by omega, by omega⟩ bL bS (Or.inl rfl) (fun _ _ => rfl)⟩
                  refine cut134 trivial hc9 ghc9 ?_ ?_ ?_
                  · exact hO
                  · exact hF
                  · exact ⟨A1, _, _, hE, tb, pr, Or.inl ⟨by omega, rfl, rfl⟩⟩
              refine hd_iload pkX14_turns rfl rfl ?_
              refine hd_if_ne pkX14_turns rfl (fun c10 => ?_) (fun c10 => ?_)
              · skip
                refine cut122 trivial ?_
                · omega
              · skip
                refine hd_iload pkX14_turns rfl rfl ?_
                refine hd_if_eq pkX14_turns rfl (fun c11 => ?_) (fun c11 => ?_)
                · skip
                  refine hd_vret pkX14_turns rfl ?_
                  subst eQ
                  refine ⟨rfl, hO, hE.trans (by omega), hF, A1, tb, ?_⟩
                  rw [show e9 = E4 by omega]
                  exact pr.up (by have w := tu_b O0 hn hM1 hnM lv rv x2 x3 x4 (Or.inr (Or.inr (Or.inr ⟨by omega, by omega, rfl⟩))) hB1 hB2 hB3; rw [Rat.mul_one] at w; exact w)
                · skip
                  refine cut122 trivial ?_
                  · omega
            refine hd_iload pkX14_turns rfl rfl ?_
            refine hd_if_eq pkX14_turns rfl (fun c12 => ?_) (fun c12 => ?_)
            · skip
              refine cut118 trivial hj62 gc62 ?_ ?_ ?_
              · exact hO
              · exact hF
              · exact ⟨A1, _, _, hE, tb, pr, Cw.n (by omega)⟩
            · skip
              refine hd_iload pkX14_turns rfl rfl ?_
              refine hd_if_eq pkX14_turns rfl (fun c13 => ?_) (fun c13 => ?_)
              · skip
                refine cut118 trivial hj62 gc62 ?_ ?_ ?_
                · exact hO
                · exact hF
                · exact ⟨A1, _, _, hE, tb, pr, Cw.n (by omega)⟩
              · skip
                refine hd_aload pkX14_turns rfl rfl (Int.natCast_nonneg _) ?_
                refine hd_aload pkX14_turns rfl rfl (Int.natCast_nonneg _) ?_
                refine hd_getI pkX14_turns rfl (gc62.cell 0 rfl).1 (gc62.cell 0 rfl).2.1 (fun v14 ev14 rv14 => ?_)
                have qv14 : E3 = v14 := by rw [ev14]; exact hE.symm
                subst qv14
                refine hd_iload pkX14_turns rfl rfl ?_
                refine hd_ipush (z := 1) pkX14_turns rfl ?_
                refine hd_isub pkX14_turns rfl (by omega) ?_
                refine hd_ipush (z := 1) pkX14_turns rfl ?_
                refine hd_ipush (z := 4) pkX14_turns rfl ?_
                refine hd_ipush (z := 1) pkX14_turns rfl ?_
                have bL := (hBE (n - 1) (by omega) (by omega)).1
                have bS := (hBE (n - 1) (by omega) (by omega)).2
                have eL : ga hj62 2498 (n - 1) = ga h 2498 (n - 1) := hO.ga (by decide) _
                have eS : ga hj62 2499 (n - 1) = ga h 2499 (n - 1) := hO.ga (by decide) _
                have ba := (pr.cur (by omega)).sz
                refine hd_callV pkX14_turns rfl (q := (KX14_put, yX14_put, 14, 5, 0)) rfl rfl rfl (As := [(0, E3), (0, (n - 1)), (0, 1), (0, 4), (0, 1)]) (rest := []) (c := 2495) rfl rfl (Nat.le_of_ble_eq_true rfl) (gc62.cell 0 rfl).1 (gc62.cell 0 rfl).2.1 (h_X14_put (m := 1) (by omega) (by omega) (by omega) (by omega) (by rw [eL]; exact bL) (by rw [eS]; exact bS) ⟨by decide, by decide⟩ ⟨by decide, by decide⟩ (Or.inl rfl) tb ba (by decide) gc62) (hd_bV (fun hc15 pp => ?_))
                have ghc15 : Str t14 r14 hc15 := gc62.only pp.1 (by decide)
                have hO := hO.trans (pp.1.mono (by decide))
                have tb := pp.2
                rw [eL, eS] at tb
                have hE := (pp.1.ga (by decide) _).trans hE
                have hF := fun (j : Int) (j0 : 0 ≤ j) (j1 : j ≠ 17) => (pp.1.ga (by decide) j).trans (hF j j0 j1)
                obtain ⟨A1, tb, pr⟩ : ∃ A1 : Int → Int → Rat, Tab 2496 2497 hc15 A1 ∧ Prt A1 E3 O3 (plP zP (n - 1) 1 1 (ga h 2498 (n - 1))) (plQ oQ (n - 1) 1 (ga h 2499 (n - 1))) := ⟨_, tb, pr.put4 ⟨by omega, by omega⟩ bL bS (Or.inl rfl) (fun _ _ => rfl)⟩
                refine hd_aload pkX14_turns rfl rfl (Int.natCast_nonneg _) ?_
                refine hd_aload pkX14_turns rfl rfl (Int.natCast_nonneg _) ?_
                refine hd_getI pkX14_turns rfl (ghc15.cell 0 rfl).1 (ghc15.cell 0 rfl).2.1 (fun v16 ev16 rv16 => ?_)
                have qv16 : E3 = v16 := by rw [ev16]; exact hE.symm
                subst qv16
                refine hd_iload pkX14_turns rfl rfl ?_
                refine hd_ipush (z := 1) pkX14_turns rfl ?_
                refine hd_ipush (z := 0) pkX14_turns rfl ?_
                refine hd_ipush (z := (-1)) pkX14_turns rfl ?_
                have bL := (hBE n (by omega) (by omega)).1
                have bS := (hBE n (by omega) (by omega)).2
                have eL : ga hc15 2498 n = ga h 2498 n := hO.ga (by decide) _
                have eS : ga hc15 2499 n = ga h 2499 n := hO.ga (by decide) _
                have ba := (pr.cur (by omega)).sz
                refine hd_callV pkX14_turns rfl (q := (KX14_put, yX14_put, 14, 5, 0)) rfl rfl rfl (As := [(0, E3), (0, n), (0, 1), (0, 0), (0, (-1))]) (rest := []) (c := 2495) rfl rfl (Nat.le_of_ble_eq_true rfl) (ghc15.cell 0 rfl).1 (ghc15.cell 0 rfl).2.1 (h_X14_put (m := 1) (by omega) (by omega) (by omega) (by omega) (by rw [eL]; exact bL) (by rw [eS]; exact bS) ⟨by decide, by decide⟩ ⟨by decide, by decide⟩ (Or.inr rfl) tb ba (by decide) ghc15) (hd_bV (fun hc17 pp => ?_))
                have ghc17 : Str t14 r14 hc17 := ghc15.only pp.1 (by decide)
                have hO := hO.trans (pp.1.mono (by decide))
                have tb := pp.2
                rw [eL, eS] at tb
                have hE := (pp.1.ga (by decide) _).trans hE
                have hF := fun (j : Int) (j0 : 0 ≤ j) (j1 : j ≠ 17) => (pp.1.ga (by decide) j).trans (hF j j0 j1)
                obtain ⟨A1, tb, pr⟩ : ∃ A1 : Int → Int → Rat, Tab 2496 2497 hc17 A1 ∧ Prt A1 E3 O3 (atF (plP zP (n - 1) 1 1 (ga h 2498 (n - 1))) (4 * n + 1) (-1)) (atF (plQ oQ (n - 1) 1 (ga h 2499 (n - 1))) (4 * n + 1) 1) := ⟨_, tb, pr.put0 ⟨by omega, by omega⟩ ⟨by decide, by decide⟩ (Or.inr rfl) ((plP_o (by omega) (by omega)).trans rfl)⟩
                refine hd_aload pkX14_turns rfl rfl (Int.natCast_nonneg _) ?_
                have bL := (hBE (n - 1) (by omega) (by omega)).1
                have bS := (hBE (n - 1) (by omega) (by omega)).2
                have ck := ckTT (k := n - 1) ⟨by omega, by omega⟩ bL bS
                rw [show n - 1 + 1 = n by omega] at ck
                refine hd_callV pkX14_turns rfl (q := (KX14_next, yX14_next, 14, 0, 0)) rfl rfl rfl (As := []) (rest := []) (c := 2495) rfl rfl (Nat.le_of_ble_eq_true rfl) (ghc17.cell 0 rfl).1 (ghc17.cell 0 rfl).2.1 (h_X14_next hE ⟨by omega, by omega⟩ ghc17) (hd_bV (fun hc18 pn => ?_))
                have ghc18 : Str t14 r14 hc18 := ghc17.but pn.1 pn.2.2 (by decide)
                have hO := hO.trans (pn.1.mono (by decide))
                have tb := tb.only pn.1 (by decide) (by decide)
                have hE := pn.2.1
                have hF := fun (j : Int) (j0 : 0 ≤ j) (j1 : j ≠ 17) => (pn.2.2 j j0 j1).trans (hF j j0 j1)
                have pr : Prt A1 (E3 + 1) (O3 * 360) zP oQ := pr.done (by omega) rfl ck (by decide)
                refine cut118 trivial hc18 ghc18 ?_ ?_ ?_
                · exact hO
                · exact hF
                · exact ⟨A1, _, _, hE, tb, pr, Cw.y (by omega)⟩
          · skip
            have cut81 : ∀ (_ : True) (hj81 : MH), Str t14 r14 hj81 → (Only [2496, 2497, 2495] h hj81) → (∀ j : Int, 0 ≤ j → j ≠ 17 → ga hj81 2495 j = ga h 2495 j) → (∃ A1 : Int → Int → Rat, ∃ E4 : Int, ∃ O4 : Rat, ga hj81 2495 17 = E4 ∧ Tab 2496 2497 hj81 A1 ∧ Prt A1 E4 O4 zP oQ ∧ (Cw (lf = 1) E4 E3 O4 O3 336)) → MW KX14_turns Q 0 0 (pcA pgX14_turns 81) [(0, (2, ((2495 : Nat) : Int))), (1, (0, n)), (2, (0, lf)), (3, (0, rg))] [] hj81 := by
              intro _ hj81 gc81 hO hF tbx
              obtain ⟨A1, E4, O4, hE, tb, pr, x4⟩ := tbx
              have y4 := x4.e
              refine hd_iload pkX14_turns rfl rfl ?_
              refine hd_if_eq pkX14_turns rfl (fun c19 => ?_) (fun c19 => ?_)
              · skip
                refine hd_vret pkX14_turns rfl ?_
                subst eQ
                refine ⟨rfl, hO, hE.trans (by omega), hF, A1, tb, ?_⟩
                rw [show e9 = E4 by omega]
                exact pr.up (by have w := tu_a O0 hn hM1 hnM lv rv x2 x3 x4 (Or.inl ⟨by omega, rfl⟩) hB1 hB2 hB3; rw [Rat.mul_one] at w; exact w)
              · skip
                refine hd_aload pkX14_turns rfl rfl (Int.natCast_nonneg _) ?_
                refine hd_aload pkX14_turns rfl rfl (Int.natCast_nonneg _) ?_
                refine hd_getI pkX14_turns rfl (gc81.cell 0 rfl).1 (gc81.cell 0 rfl).2.1 (fun v20 ev20 rv20 => ?_)
                have qv20 : E4 = v20 := by rw [ev20]; exact hE.symm
                subst qv20
                refine hd_iload pkX14_turns rfl rfl ?_
                refine hd_ipush (z := 1) pkX14_turns rfl ?_
                refine hd_ipush (z := 0) pkX14_turns rfl ?_
                refine hd_ipush (z := 1) pkX14_turns rfl ?_
                have bL := (hBE n (by omega) (by omega)).1
                have bS := (hBE n (by omega) (by omega)).2
                have eL : ga hj81 2498 n = ga h 2498 n := hO.ga (by decide) _
                have eS : ga hj81 2499 n = ga h 2499 n := hO.ga (by decide) _
                have ba := (pr.cur (by omega)).sz
                refine hd_callV pkX14_turns rfl (q := (KX14_put, yX14_put, 14, 5, 0)) rfl rfl rfl (As := [(0, E4), (0, n), (0, 1), (0, 0), (0, 1)]) (rest := []) (c := 2495) rfl rfl (Nat.le_of_ble_eq_true rfl) (gc81.cell 0 rfl).1 (gc81.cell 0 rfl).2.1 (h_X14_put (m := 1) (by omega) (by omega) (by omega) (by omega) (by rw [eL]; exact bL) (by rw [eS]; exact bS) ⟨by decide, by decide⟩ ⟨by decide, by decide⟩ (Or.inl rfl) tb ba (by decide) gc81) (hd_bV (fun hc21 pp => ?_))
                have ghc21 : Str t14 r14 hc21 := gc81.only pp.1 (by decide)
                have hO := hO.trans (pp.1.mono (by decide))
                have tb := pp.2
                rw [eL, eS] at tb
                have hE := (pp.1.ga (by decide) _).trans hE
                have hF := fun (j : Int) (j0 : 0 ≤ j) (j1 : j ≠ 17) => (pp.1.ga (by decide) j).trans (hF j j0 j1)
                obtain ⟨A1, tb, pr⟩ : ∃ A1 : Int → Int → Rat, Tab 2496 2497 hc21 A1 ∧ Prt A1 E4 O4 (atF zP (4 * n + 1) 1) (atF oQ (4 * n + 1) 1) := ⟨_, tb, pr.put0 ⟨by omega, by omega⟩ ⟨by decide, by decide⟩ (Or.inl rfl) rfl⟩
                refine hd_aload pkX14_turns rfl rfl (Int.natCast_nonneg _) ?_
                refine hd_callV pkX14_turns rfl (q := (KX14_next, yX14_next, 14, 0, 0)) rfl rfl rfl (As := []) (rest := []) (c := 2495) rfl rfl (Nat.le_of_ble_eq_true rfl) (ghc21.cell 0 rfl).1 (ghc21.cell 0 rfl).2.1 (h_X14_next hE ⟨by omega, by omega⟩ ghc21) (hd_bV (fun hc22 pn => ?_))
                have ghc22 : Str t14 r14 hc22 := ghc21.but pn.1 pn.2.2 (by decide)
                have hO := hO.trans (pn.1.mono (by decide))
                have tb := tb.only pn.1 (by decide) (by decide)
                have hE := pn.2.1
                have hF := fun (j : Int) (j0 : 0 ≤ j) (j1 : j ≠ 17) => (pn.2.2 j j0 j1).trans (hF j j0 j1)
                have pr : Prt A1 (E4 + 1) (O4 * 2) zP oQ := pr.done (by omega) rfl (ck1 ⟨by omega, by omega⟩ ⟨by decide, by decide⟩ (Or.inl rfl)) (by decide)
                refine hd_vret pkX14_turns rfl ?_
                subst eQ
                refine ⟨rfl, hO, hE.trans (by omega), hF, A1, tb, ?_⟩
                rw [show e9 = E4 + 1 by omega]
                exact pr.up (tu_a O0 hn hM1 hnM lv rv x2 x3 x4 (Or.inr ⟨by omega, rfl⟩) hB1 hB2 hB3)
            refine hd_iload pkX14_turns rfl rfl ?_
            refine hd_if_eq pkX14_turns rfl (fun c23 => ?_) (fun c23 => ?_)
            · skip
              refine cut81 trivial hj62 gc62 ?_ ?_ ?_
              · exact hO
              · exact hF
              · exact ⟨A1, _, _, hE, tb, pr, Cw.n (by omega)⟩
            · skip
              refine hd_aload pkX14_turns rfl rfl (Int.natCast_nonneg _) ?_
              refine hd_aload pkX14_turns rfl rfl (Int.natCast_nonneg _) ?_
              refine hd_getI pkX14_turns rfl (gc62.cell 0 rfl).1 (gc62.cell 0 rfl).2.1 (fun v24 ev24 rv24 => ?_)
              have qv24 : E3 = v24 := by rw [ev24]; exact hE.symm
              subst qv24
              refine hd_iload pkX14_turns rfl rfl ?_
              refine hd_ipush (z := 1) pkX14_turns rfl ?_
              refine hd_isub pkX14_turns rfl (by omega) ?_
              refine hd_ipush (z := 1) pkX14_turns rfl ?_
              refine hd_ipush (z := 4) pkX14_turns rfl ?_
              refine hd_ipush (z := 1) pkX14_turns rfl ?_
              have bL := (hBE (n - 1) (by omega) (by omega)).1
              have bS := (hBE (n - 1) (by omega) (by omega)).2
              have eL : ga hj62 2498 (n - 1) = ga h 2498 (n - 1) := hO.ga (by decide) _
              have eS : ga hj62 2499 (n - 1) = ga h 2499 (n - 1) := hO.ga (by decide) _
              have ba := (pr.cur (by omega)).sz
              refine hd_callV pkX14_turns rfl (q := (KX14_put, yX14_put, 14, 5, 0)) rfl rfl rfl (As := [(0, E3), (0, (n - 1)), (0, 1), (0, 4), (0, 1)]) (rest := []) (c := 2495) rfl rfl (Nat.le_of_ble_eq_true rfl) (gc62.cell 0 rfl).1 (gc62.cell 0 rfl).2.1 (h_X14_put (m := 1) (by omega) (by omega) (by omega) (by omega) (by rw [eL]; exact bL) (by rw [eS]; exact bS) ⟨by decide, by decide⟩ ⟨by decide, by decide⟩ (Or.inl rfl) tb ba (by decide) gc62) (hd_bV (fun hc25 pp => ?_))
              have ghc25 : Str t14 r14 hc25 := gc62.only pp.1 (by decide)
              have hO := hO.trans (pp.1.mono (by decide))
              have tb := pp.2
              rw [eL, eS] at tb
              have hE := (pp.1.ga (by decide) _).trans hE
              have hF := fun (j : Int) (j0 : 0 ≤ j) (j1 : j ≠ 17) => (pp.1.ga (by decide) j).trans (hF j j0 j1)
              obtain ⟨A1, tb, pr⟩ : ∃ A1 : Int → Int → Rat, Tab 2496 2497 hc25 A1 ∧ Prt A1 E3 O3 (plP zP (n - 1) 1 1 (ga h 2498 (n - 1))) (plQ oQ (n - 1) 1 (ga h 2499 (n - 1))) := ⟨_, tb, pr.put4 ⟨by omega, by omega⟩ bL bS (Or.inl rfl) (fun _ _ => rfl)⟩
              refine hd_aload pkX14_turns rfl rfl (Int.natCast_nonneg _) ?_
              refine hd_callV pkX14_turns rfl (q := (KX14_next, yX14_next, 14, 0, 0)) rfl rfl rfl (As := []) (rest := []) (c := 2495) rfl rfl (Nat.le_of_ble_eq_true rfl) (ghc25.cell 0 rfl).1 (ghc25.cell 0 rfl).2.1 (h_X14_next hE ⟨by omega, by omega⟩ ghc25) (hd_bV (fun hc26 pn => ?_))
              have ghc26 : Str t14 r14 hc26 := ghc25.but pn.1 pn.2.2 (by decide)
              have hO := hO.trans (pn.1.mono (by decide))
              have tb := tb.only pn.1 (by decide) (by decide)
              have hE := pn.2.1
              have hF := fun (j : Int) (j0 : 0 ≤ j) (j1 : j ≠ 17) => (pn.2.2 j j0 j1).trans (hF j j0 j1)
              have pr : Prt A1 (E3 + 1) (O3 * 336) zP oQ := pr.done (by omega) rfl (ckT ⟨by omega, by omega⟩ bL bS) (by decide)
              refine cut81 trivial hc26 ghc26 ?_ ?_ ?_
              · exact hO
              · exact hF
              · exact ⟨A1, _, _, hE, tb, pr, Cw.y (by omega)⟩
        refine hd_iload pkX14_turns rfl rfl ?_
        refine hd_aload pkX14_turns rfl rfl (Int.natCast_nonneg _) ?_
        refine hd_getI pkX14_turns rfl (gc46.cell 0 rfl).1 (gc46.cell 0 rfl).2.1 (fun v27 ev27 rv27 => ?_)
        have qv27 : M = v27 := by rw [ev27]; exact ((hF 3 (by decide) (by decide)).trans hM).symm
        subst qv27
        refine hd_ic_ge pkX14_turns rfl (fun c28 => ?_) (fun c28 => ?_)
        · skip
          refine cut62 trivial hj46 gc46 ?_ ?_ ?_
          · exact hO
          · exact hF
          · exact ⟨A1, _, _, hE, tb, pr, Cw.n (by omega)⟩
        · skip
          refine hd_iload pkX14_turns rfl rfl ?_
          refine hd_if_ne pkX14_turns rfl (fun c29 => ?_) (fun c29 => ?_)
          · skip
            refine cut62 trivial hj46 gc46 ?_ ?_ ?_
            · exact hO
            · exact hF
            · exact ⟨A1, _, _, hE, tb, pr, Cw.n (by omega)⟩
          · skip
            refine hd_aload pkX14_turns rfl rfl (Int.natCast_nonneg _) ?_
            refine hd_aload pkX14_turns rfl rfl (Int.natCast_nonneg _) ?_
            refine hd_getI pkX14_turns rfl (gc46.cell 0 rfl).1 (gc46.cell 0 rfl).2.1 (fun v30 ev30 rv30 => ?_)
            have qv30 : E2 = v30 := by rw [ev30]; exact hE.symm
            subst qv30
            refine hd_iload pkX14_turns rfl rfl ?_
            refine hd_ipush (z := 2) pkX14_turns rfl ?_
            refine hd_ipush (z := 0) pkX14_turns rfl ?_
            refine hd_ipush (z := 1) pkX14_turns rfl ?_
            have bL := (hBE n (by omega) (by omega)).1
            have bS := (hBE n (by omega) (by omega)).2
            have eL : ga hj46 2498 n = ga h 2498 n := hO.ga (by decide) _
            have eS : ga hj46 2499 n = ga h 2499 n := hO.ga (by decide) _
            have ba := (pr.cur (by omega)).sz
            refine hd_callV pkX14_turns rfl (q := (KX14_put, yX14_put, 14, 5, 0)) rfl rfl rfl (As := [(0, E2), (0, n), (0, 2), (0, 0), (0, 1)]) (rest := []) (c := 2495) rfl rfl (Nat.le_of_ble_eq_true rfl) (gc46.cell 0 rfl).1 (gc46.cell 0 rfl).2.1 (h_X14_put (m := 1) (by omega) (by omega) (by omega) (by omega) (by rw [eL]; exact bL) (by rw [eS]; exact bS) ⟨by decide, by decide⟩ ⟨by decide, by decide⟩ (Or.inl rfl) tb ba (by decide) gc46) (hd_bV (fun hc31 pp => ?_))
            have ghc31 : Str t14 r14 hc31 := gc46.only pp.1 (by decide)
            have hO := hO.trans (pp.1.mono (by decide))
            have tb := pp.2
            rw [eL, eS] at tb
            have hE := (pp.1.ga (by decide) _).trans hE
            have hF := fun (j : Int) (j0 : 0 ≤ j) (j1 : j ≠ 17) => (pp.1.ga (by decide) j).trans (hF j j0 j1)
            obtain ⟨A1, tb, pr⟩ : ∃ A1 : Int → Int → Rat, Tab 2496 2497 hc31 A1 ∧ Prt A1 E2 O2 (atF zP (4 * n + 2) 1) (atF oQ (4 * n + 2) 1) := ⟨_, tb, pr.put0 ⟨by omega, by omega⟩ ⟨by decide, by decide⟩ (Or.inl rfl) rfl⟩
            refine hd_aload pkX14_turns rfl rfl (Int.natCast_nonneg _) ?_
            refine hd_callV pkX14_turns rfl (q := (KX14_next, yX14_next, 14, 0, 0)) rfl rfl rfl (As := []) (rest := []) (c := 2495) rfl rfl (Nat.le_of_ble_eq_true rfl) (ghc31.cell 0 rfl).1 (ghc31.cell 0 rfl).2.1 (h_X14_next hE ⟨by omega, by omega⟩ ghc31) (hd_bV (fun hc32 pn => ?_))
            have ghc32 : Str t14 r14 hc32 := ghc31.but pn.1 pn.2.2 (by decide)
            have hO := hO.trans (pn.1.mono (by decide))
            have tb := tb.only pn.1 (by decide) (by decide)
            have hE := pn.2.1
            have hF := fun (j : Int) (j0 : 0 ≤ j) (j1 : j ≠ 17) => (pn.2.2 j j0 j1).trans (hF j j0 j1)
            have pr : Prt A1 (E2 + 1) (O2 * 2) zP oQ := pr.done (by omega) rfl (ck1 ⟨by omega, by omega⟩ ⟨by decide, by decide⟩ (Or.inl rfl)) (by decide)
            refine cut62 trivial hc32 ghc32 ?_ ?_ ?_
            · exact hO
            · exact hF
            · exact ⟨A1, _, _, hE, tb, pr, Cw.y (by omega)⟩
      refine hd_iload pkX14_turns rfl rfl ?_
      refine hd_if_le pkX14_turns rfl (fun c33 => ?_) (fun c33 => ?_)
      · skip
        refine m_sub [(0, (2, ((2495 : Nat) : Int))), (1, (0, n)), (2, (0, lf)), (3, (0, rg))] (List.forall_mem_cons.mpr ⟨rfl, List.forall_mem_cons.mpr ⟨rfl, List.forall_mem_cons.mpr ⟨rfl, List.forall_mem_cons.mpr ⟨rfl, fun _ h => absurd h List.not_mem_nil⟩⟩⟩⟩) ?_
        refine cut46 trivial h g ?_ ?_ ?_
        · exact hO
        · exact hF
        · exact ⟨A1, _, _, hE, tb, pr, Cw.n (by omega)⟩
      · skip
        refine hd_iload pkX14_turns rfl rfl ?_
        refine hd_if_ne pkX14_turns rfl (fun c34 => ?_) (fun c34 => ?_)
        · skip
          refine m_sub [(0, (2, ((2495 : Nat) : Int))), (1, (0, n)), (2, (0, lf)), (3, (0, rg))] (List.forall_mem_cons.mpr ⟨rfl, List.forall_mem_cons.mpr ⟨rfl, List.forall_mem_cons.mpr ⟨rfl, List.forall_mem_cons.mpr ⟨rfl, fun _ h => absurd h List.not_mem_nil⟩⟩⟩⟩) ?_
          refine cut46 trivial h g ?_ ?_ ?_
          · exact hO
          · exact hF
          · exact ⟨A1, _, _, hE, tb, pr, Cw.n (by omega)⟩
        · skip
          refine hd_aload pkX14_turns rfl rfl (Int.natCast_nonneg _) ?_
          refine hd_aload pkX14_turns rfl rfl (Int.natCast_nonneg _) ?_
          refine hd_getI pkX14_turns rfl (g.cell 0 rfl).1 (g.cell 0 rfl).2.1 (fun v35 ev35 rv35 => ?_)
          have qv35 : e = v35 := by rw [ev35]; exact hE.symm
          subst qv35
          refine hd_iload pkX14_turns rfl rfl ?_
          refine hd_ipush (z := 1) pkX14_turns rfl ?_
          refine hd_isub pkX14_turns rfl (by omega) ?_
          refine hd_ipush (z := 2) pkX14_turns rfl ?_
          refine hd_ipush (z := 4) pkX14_turns rfl ?_
          refine hd_ipush (z := 1) pkX14_turns rfl ?_
          have bL := (hBE (n - 1) (by omega) (by omega)).1
          have bS := (hBE (n - 1) (by omega) (by omega)).2
          have eL : ga h 2498 (n - 1) = ga h 2498 (n - 1) := hO.ga (by decide) _
          have eS : ga h 2499 (n - 1) = ga h 2499 (n - 1) := hO.ga (by decide) _
          have ba := (pr.cur (by omega)).sz
          refine hd_callV pkX14_turns rfl (q := (KX14_put, yX14_put, 14, 5, 0)) rfl rfl rfl (As := [(0, e), (0, (n - 1)), (0, 2), (0, 4), (0, 1)]) (rest := []) (c := 2495) rfl rfl (Nat.le_of_ble_eq_true rfl) (g.cell 0 rfl).1 (g.cell 0 rfl).2.1 (h_X14_put (m := 1) (by omega) (by omega) (by omega) (by omega) (by rw [eL]; exact bL) (by rw [eS]; exact bS) ⟨by decide, by decide⟩ ⟨by decide, by decide⟩ (Or.inl rfl) tb ba (by decide) g) (hd_bV (fun hc36 pp => ?_))
          have ghc36 : Str t14 r14 hc36 := g.only pp.1 (by decide)
          have hO := hO.trans (pp.1.mono (by decide))
          have tb := pp.2
          rw [eL, eS] at tb
          have hE := (pp.1.ga (by decide) _).trans hE
          have hF := fun (j : Int) (j0 : 0 ≤ j) (j1 : j ≠ 17) => (pp.1.ga (by decide) j).trans (hF j j0 j1)
          obtain ⟨A1, tb, pr⟩ : ∃ A1 : Int → Int → Rat, Tab 2496 2497 hc36 A1 ∧ Prt A1 e O (plP zP (n - 1) 2 1 (ga h 2498 (n - 1))) (plQ oQ (n - 1) 2 (ga h 2499 (n - 1))) := ⟨_, tb, pr.put4 ⟨by omega, by omega⟩ bL bS (Or.inl rfl) (fun _ _ => rfl)⟩
          refine hd_aload pkX14_turns rfl rfl (Int.natCast_nonneg _) ?_
          refine hd_callV pkX14_turns rfl (q := (KX14_next, yX14_next, 14, 0, 0)) rfl rfl rfl (As := []) (rest := []) (c := 2495) rfl rfl (Nat.le_of_ble_eq_true rfl) (ghc36.cell 0 rfl).1 (ghc36.cell 0 rfl).2.1 (h_X14_next hE ⟨by omega, by omega⟩ ghc36) (hd_bV (fun hc37 pn => ?_))
          have ghc37 : Str t14 r14 hc37 := ghc36.but pn.1 pn.2.2 (by decide)
          have hO := hO.trans (pn.1.mono (by decide))
          have tb := tb.only pn.1 (by decide) (by decide)
          have hE := pn.2.1
          have hF := fun (j : Int) (j0 : 0 ≤ j) (j1 : j ≠ 17) => (pn.2.2 j j0 j1).trans (hF j j0 j1)
          have pr : Prt A1 (e + 1) (O * 25) zP oQ := pr.done (by omega) rfl (ckM ⟨by omega, by omega⟩ bL bS) (by decide)
          refine m_sub [(0, (2, ((2495 : Nat) : Int))), (1, (0, n)), (2, (0, lf)), (3, (0, rg))] (List.forall_mem_cons.mpr ⟨rfl, List.forall_mem_cons.mpr ⟨rfl, List.forall_mem_cons.mpr ⟨rfl, List.forall_mem_cons.mpr ⟨rfl, fun _ h => absurd h List.not_mem_nil⟩⟩⟩⟩) ?_
          refine cut46 trivial hc37 ghc37 ?_ ?_ ?_
          · exact hO
          · exact hF
          · exact ⟨A1, _, _, hE, tb, pr, Cw.y (by omega)⟩
    refine hd_iload pkX14_turns rfl rfl ?_
    refine hd_aload pkX14_turns rfl rfl (Int.natCast_nonneg _) ?_
    refine hd_getI pkX14_turns rfl (g.cell 0 rfl).1 (g.cell 0 rfl).2.1 (fun v38 ev38 rv38 => ?_)
    have qv38 : M = v38 := by rw [ev38]; exact ((hF 3 (by decide) (by decide)).trans hM).symm
    subst qv38
    refine hd_ic_ge pkX14_turns rfl (fun c39 => ?_) (fun c39 => ?_)
    · skip
      refine hd_ipush (z := 0) pkX14_turns rfl ?_
      refine m_sub [(0, (2, ((2495 : Nat) : Int))), (1, (0, n)), (2, (0, lf))] (List.forall_mem_cons.mpr ⟨rfl, List.forall_mem_cons.mpr ⟨rfl, List.forall_mem_cons.mpr ⟨rfl, fun _ h => absurd h List.not_mem_nil⟩⟩⟩) ?_
      refine cut29 (0) ?_
      · omega
    · skip
      refine hd_aload pkX14_turns rfl rfl (Int.natCast_nonneg _) ?_
      refine hd_getR (n := 2502) pkX14_turns rfl (g.cell 0 rfl).1 (g.cell 0 rfl).2.1 (g.ref 6 rfl) ?_
      refine hd_ipush (z := 2) pkX14_turns rfl ?_
      refine hd_iload pkX14_turns rfl rfl ?_
      refine hd_imul pkX14_turns rfl (by omega) ?_
      refine hd_zald (n := 6) pkX14_turns rfl (g.cell 7 rfl) (by omega) (by omega) (fun v40 ev40 rv40 => ?_)
      refine hd_if_ne pkX14_turns rfl (fun c41 => ?_) (fun c41 => ?_)
      · skip
        refine hd_ipush (z := 0) pkX14_turns rfl ?_
        refine m_sub [(0, (2, ((2495 : Nat) : Int))), (1, (0, n)), (2, (0, lf))] (List.forall_mem_cons.mpr ⟨rfl, List.forall_mem_cons.mpr ⟨rfl, List.forall_mem_cons.mpr ⟨rfl, fun _ h => absurd h List.not_mem_nil⟩⟩⟩) ?_
        refine cut29 (0) ?_
        · omega
      · skip
        refine hd_ipush (z := 1) pkX14_turns rfl ?_
        refine hd_goto pkX14_turns rfl ?_
        refine m_sub [(0, (2, ((2495 : Nat) : Int))), (1, (0, n)), (2, (0, lf))] (List.forall_mem_cons.mpr ⟨rfl, List.forall_mem_cons.mpr ⟨rfl, List.forall_mem_cons.mpr ⟨rfl, fun _ h => absurd h List.not_mem_nil⟩⟩⟩) ?_
        refine cut29 (1) ?_
        · omega
  refine hd_iload pkX14_turns rfl rfl ?_
  refine hd_if_le pkX14_turns rfl (fun c42 => ?_) (fun c42 => ?_)
  · skip
    refine hd_ipush (z := 0) pkX14_turns rfl ?_
    refine cut14 (0) ?_
    · omega
  · skip
    refine hd_aload pkX14_turns rfl rfl (Int.natCast_nonneg _) ?_
    refine hd_getR (n := 2502) pkX14_turns rfl (g.cell 0 rfl).1 (g.cell 0 rfl).2.1 (g.ref 6 rfl) ?_
    refine hd_ipush (z := 2) pkX14_turns rfl ?_
    refine hd_iload pkX14_turns rfl rfl ?_
    refine hd_imul pkX14_turns rfl (by omega) ?_
    refine hd_ipush (z := 1) pkX14_turns rfl ?_
    refine hd_isub pkX14_turns rfl (by omega) ?_
    refine hd_zald (n := 6) pkX14_turns rfl (g.cell 7 rfl) (by omega) (by omega) (fun v43 ev43 rv43 => ?_)
    refine hd_if_ne pkX14_turns rfl (fun c44 => ?_) (fun c44 => ?_)
    · skip
      refine hd_ipush (z := 0) pkX14_turns rfl ?_
      refine cut14 (0) ?_
      · omega
    · skip
      refine hd_ipush (z := 1) pkX14_turns rfl ?_
      refine hd_goto pkX14_turns rfl ?_
      refine cut14 (1) ?_
      · omega
