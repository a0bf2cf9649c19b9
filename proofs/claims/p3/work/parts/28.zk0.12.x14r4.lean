set_option maxRecDepth 20000 in
set_option maxHeartbeats 8000000 in
theorem h_X14_solveAll {h : MH} {M : Int} (hM1 : 1 ≤ M) (hM3 : M ≤ 3) (hM : ga h 2495 3 = M) (hBE : ∀ k : Int, 0 ≤ k → k < M → (1 ≤ ga h 2498 k ∧ ga h 2498 k ≤ 12) ∧ (1 ≤ ga h 2499 k ∧ ga h 2499 k ≤ 12)) (hs : ∀ j : Int, 0 ≤ j → j ≤ M → -1000 ≤ ga h 2503 j ∧ ga h 2503 j ≤ 1000) (hs1 : ga h 2495 16 ≠ 0 → Sv 2496 2497 2495 2508 h M) (g : Str t14 r14 h) : MCal KX14_solveAll yX14_solveAll 0 0 [(2, ((2495 : Nat) : Int))] h (mRV fun h' => Only [2496, 2497, 2495, 2508] h h' ∧ (∀ j : Int, 0 ≤ j → j ≠ 16 → j ≠ 17 → j ≠ 18 → ga h' 2495 j = ga h 2495 j) ∧ (ga h 2495 16 ≠ 0 → h' = h) ∧ ga h' 2495 16 ≠ 0 ∧ Sv 2496 2497 2495 2508 h' M) := by
  refine MCal.ofMW (Or.inl rfl) ⟨cp_X14, rfl⟩ (Nat.le_of_ble_eq_true rfl) ?_
  generalize eQ : (mRV fun h' => Only [2496, 2497, 2495, 2508] h h' ∧ (∀ j : Int, 0 ≤ j → j ≠ 16 → j ≠ 17 → j ≠ 18 → ga h' 2495 j = ga h 2495 j) ∧ (ga h 2495 16 ≠ 0 → h' = h) ∧ ga h' 2495 16 ≠ 0 ∧ Sv 2496 2497 2495 2508 h' M : MO → MH → Prop) = Q
  change MW KX14_solveAll Q 0 0 (pcA pgX14_solveAll 0) [(0, (2, ((2495 : Nat) : Int)))] [] h
  refine hd_aload pkX14_solveAll rfl rfl (Int.natCast_nonneg _) ?_
  refine hd_getZ pkX14_solveAll rfl (g.cell 0 rfl).1 (g.cell 0 rfl).2.1 (fun v1 ev1 rv1 => ?_)
  refine hd_if_eq pkX14_solveAll rfl (fun c2 => ?_) (fun c2 => ?_)
  · skip
    refine hd_aload pkX14_solveAll rfl rfl (Int.natCast_nonneg _) ?_
    refine hd_ipush (z := 1) pkX14_solveAll rfl ?_
    refine hd_putZ pkX14_solveAll rfl (g.cell 0 rfl).1 (g.cell 0 rfl).2.1 (by omega) (fun hh3 ehh3 => ?_)
    have ghh3 : Str t14 r14 hh3 := by rw [ehh3]; exact g.setF rfl
    have O1 : Only [2495] h hh3 := by rw [ehh3]; exact (Only.refl _ _).set List.mem_cons_self
    have f1 : ∀ j : Int, 0 ≤ j → j ≠ 16 → ga hh3 2495 j = ga h 2495 j := fun j j0 j1 => by
      rw [ehh3]
      exact (ga_sa _ _ _ (by decide) j0).trans (if_neg j1)
    have f2 : ga hh3 2495 16 = 1 := by
      rw [ehh3]
      exact (ga_sa _ _ _ (by decide) (by decide)).trans (if_pos rfl)
    have hO := O1.mono (ds := [2496, 2497, 2495, 2508]) (by decide)
    have hF : ∀ j : Int, 0 ≤ j → j ≠ 16 → j ≠ 17 → j ≠ 18 → ga hh3 2495 j = ga h 2495 j := fun j j0 a b c => f1 j j0 a
    have h16 := f2
    refine hd_ipush (z := 0) pkX14_solveAll rfl ?_
    refine hd_istore pkX14_solveAll rfl rfl ?_
    change MW _ _ _ _ _ [(1, (0, 0)), (0, (2, ((2495 : Nat) : Int)))] _ _
    have lp9 : ∀ (N9 : Nat) (k : Int) (hz : MH), Str t14 r14 hz → (Only [2496, 2497, 2495, 2508] h hz) → (∀ j : Int, 0 ≤ j → j ≠ 16 → j ≠ 17 → j ≠ 18 → ga hz 2495 j = ga h 2495 j) → (ga hz 2495 16 = 1) → (0 ≤ k ∧ k ≤ 336) → (∀ i : Int, 0 ≤ i → i < k → Nv 70 2496 2497 hz i 0 ∧ Nv 70 2496 2497 hz (336 + i) 1) → (336 : Int) - k < (N9 : Int) → MW KX14_solveAll Q 0 0 (pcA pgX14_solveAll 9) [(0, (2, ((2495 : Nat) : Int))), (1, (0, k))] [] hz := by
      intro N9
      induction N9 with
      | zero => intro k hz g9 hO hF h16 k0 nz hm9; exfalso; omega
      | succ N9 ih9 =>
        intro k hz g9 hO hF h16 k0 nz hm9
        refine hd_iload pkX14_solveAll rfl rfl ?_
        refine hd_ipush (z := 336) pkX14_solveAll rfl ?_
        refine hd_ic_ge pkX14_solveAll rfl (fun c4 => ?_) (fun c4 => ?_)
        · skip
          have tb : Tab 2496 2497 hz (fun _ _ => 0) := Tab.zero fun i i0 i1 => nz i i0 (by omega)
          refine hd_aload pkX14_solveAll rfl rfl (Int.natCast_nonneg _) ?_
          refine hd_ipush (z := 0) pkX14_solveAll rfl ?_
          refine hd_putI pkX14_solveAll rfl (g9.cell 0 rfl).1 (g9.cell 0 rfl).2.1 (fun hh5 ehh5 => ?_)
          have ghh5 : Str t14 r14 hh5 := by rw [ehh5]; exact g9.setF rfl
          have O1 : Only [2495] hz hh5 := by rw [ehh5]; exact (Only.refl _ _).set List.mem_cons_self
          have f1 : ∀ j : Int, 0 ≤ j → j ≠ 17 → ga hh5 2495 j = ga hz 2495 j := fun j j0 j1 => by
            rw [ehh5]
            exact (ga_sa _ _ _ (by decide) j0).trans (if_neg j1)
          have f2 : ga hh5 2495 17 = 0 := by
            rw [ehh5]
            exact (ga_sa _ _ _ (by decide) (by decide)).trans (if_pos rfl)
          have hO := hO.trans (O1.mono (by decide))
          have h16 := (f1 16 (by decide) (by decide)).trans h16
          have hF : ∀ j : Int, 0 ≤ j → j ≠ 16 → j ≠ 17 → j ≠ 18 → ga hh5 2495 j = ga h 2495 j := fun j j0 a b c => (f1 j j0 b).trans (hF j j0 a b c)
          have hE := f2
          have tb := tb.only O1 (by decide) (by decide)
          refine hd_ipush (z := 0) pkX14_solveAll rfl ?_
          refine hd_istore pkX14_solveAll rfl rfl ?_
          change MW _ _ _ _ _ [(1, (0, 0)), (0, (2, ((2495 : Nat) : Int)))] _ _
          have lp29 : ∀ (N29 : Nat) (n : Int) (hn : MH), Str t14 r14 hn → (Only [2496, 2497, 2495, 2508] h hn) → (∀ j : Int, 0 ≤ j → j ≠ 16 → j ≠ 17 → j ≠ 18 → ga hn 2495 j = ga h 2495 j) → (ga hn 2495 16 = 1) → (0 ≤ n ∧ n ≤ M + 1) → (∃ (A1 : Int → Int → Rat) (E : Int) (O : Rat), ga hn 2495 17 = E ∧ Tab 2496 2497 hn A1 ∧ Prt A1 E O zP oQ ∧ PL n M E O) → M + 1 - n < (N29 : Int) → MW KX14_solveAll Q 0 0 (pcA pgX14_solveAll 29) [(0, (2, ((2495 : Nat) : Int))), (1, (0, n))] [] hn := by
            intro N29
            induction N29 with
            | zero => intro n hn g29 hO hF h16 c0 tbx hm29; exfalso; omega
            | succ N29 ih29 =>
              intro n hn g29 hO hF h16 c0 tbx hm29
              obtain ⟨A1, E, O, hE, tb, pr, pl⟩ := tbx
              refine hd_iload pkX14_solveAll rfl rfl ?_
              refine hd_aload pkX14_solveAll rfl rfl (Int.natCast_nonneg _) ?_
              refine hd_getI pkX14_solveAll rfl (g29.cell 0 rfl).1 (g29.cell 0 rfl).2.1 (fun v6 ev6 rv6 => ?_)
              have qv6 : M = v6 := by rw [ev6]; exact ((hF 3 (by decide) (by decide) (by decide) (by decide)).trans hM).symm
              subst qv6
              refine hd_ic_gt pkX14_solveAll rfl (fun c7 => ?_) (fun c7 => ?_)
              · skip
                obtain ⟨e9, o9⟩ : E = 4 * M ∧ O = OM := by
                  rcases pl with ⟨a, b, d⟩ | ⟨a, q, b, d⟩ | ⟨a, q, b, d⟩ | ⟨a, q, b, d⟩ | ⟨a, b, d⟩
                  · exfalso
                    omega
                  · exfalso
                    omega
                  · exfalso
                    omega
                  · exfalso
                    omega
                  · exact ⟨b, d⟩
                rw [o9] at pr
                rw [e9] at pr hE
                have gs := Gs.start pr
                refine hd_aload pkX14_solveAll rfl rfl (Int.natCast_nonneg _) ?_
                refine hd_ipush (z := 0) pkX14_solveAll rfl ?_
                refine hd_putI pkX14_solveAll rfl (g29.cell 0 rfl).1 (g29.cell 0 rfl).2.1 (fun hh8 ehh8 => ?_)
                have ghh8 : Str t14 r14 hh8 := by rw [ehh8]; exact g29.setF rfl
                have O1 : Only [2495] hn hh8 := by rw [ehh8]; exact (Only.refl _ _).set List.mem_cons_self
                have f1 : ∀ j : Int, 0 ≤ j → j ≠ 18 → ga hh8 2495 j = ga hn 2495 j := fun j j0 j1 => by
                  rw [ehh8]
                  exact (ga_sa _ _ _ (by decide) j0).trans (if_neg j1)
                have f2 : ga hh8 2495 18 = 0 := by
                  rw [ehh8]
                  exact (ga_sa _ _ _ (by decide) (by decide)).trans (if_pos rfl)
                have hO := hO.trans (O1.mono (by decide))
                have h16 := (f1 16 (by decide) (by decide)).trans h16
                have hF : ∀ j : Int, 0 ≤ j → j ≠ 16 → j ≠ 17 → j ≠ 18 → ga hh8 2495 j = ga h 2495 j := fun j j0 a b c => (f1 j j0 c).trans (hF j j0 a b c)
                have hE := (f1 17 (by decide) (by decide)).trans hE
                have tb := tb.only O1 (by decide) (by decide)
                have fr : Kf 2496 2497 2495 2508 h hh8 (4 * M) 0 := ⟨hO, hF, hE, f2, h16⟩
                refine hd_ipush (z := 0) pkX14_solveAll rfl ?_
                refine hd_istore pkX14_solveAll rfl rfl ?_
                change MW _ _ _ _ _ [(1, (0, 0)), (0, (2, ((2495 : Nat) : Int)))] _ _
                have lp46 : ∀ (N46 : Nat) (c : Int) (hcl : MH), Str t14 r14 hcl → (0 ≤ c ∧ c ≤ 4 * M) → (∃ (T : Int → Int → Rat) (K : Nat), Kf 2496 2497 2495 2508 h hcl (4 * M) K ∧ Tab 2496 2497 hcl T ∧ Gs (4 * M).toNat T K c.toNat ∧ TB hcl 2508 K c) → 4 * M - c < (N46 : Int) → MW KX14_solveAll Q 0 0 (pcA pgX14_solveAll 46) [(0, (2, ((2495 : Nat) : Int))), (1, (0, c))] [] hcl := by
                  intro N46
                  induction N46 with
                  | zero => intro c hcl g46 c0 tbx hm46; exfalso; omega
                  | succ N46 ih46 =>
                    intro c hcl g46 c0 tbx hm46
                    obtain ⟨T, K, fr, tb, gs, tl⟩ := tbx
                    obtain ⟨rk, hrk⟩ : ∃ rk : Int, rk = (K : Int) := ⟨_, rfl⟩
                    rw [← hrk] at fr tl
                    have gl := gs.le
                    have rk0 : 0 ≤ rk ∧ rk ≤ c := by omega
                    refine hd_iload pkX14_solveAll rfl rfl ?_
                    refine hd_ipush (z := 4) pkX14_solveAll rfl ?_
                    refine hd_aload pkX14_solveAll rfl rfl (Int.natCast_nonneg _) ?_
                    refine hd_getI pkX14_solveAll rfl (g46.cell 0 rfl).1 (g46.cell 0 rfl).2.1 (fun v9 ev9 rv9 => ?_)
                    have qv9 : M = v9 := by rw [ev9]; exact ((fr.2.1 3 (by decide) (by decide) (by decide) (by decide)).trans hM).symm
                    subst qv9
                    refine hd_imul pkX14_solveAll rfl (by omega) ?_
                    refine hd_ic_ge pkX14_solveAll rfl (fun c10 => ?_) (fun c10 => ?_)
                    · skip
                      refine hd_vret pkX14_solveAll rfl ?_
                      subst eQ
                      have sq : ga h 2495 16 = 0 := by
                        have q2 : ga h 2495 ((16 : Nat) : Int) = ga h 2495 16 := rfl
                        omega
                      have u7 : c = 4 * M := by omega
                      rw [u7] at gs tl
                      rw [hrk] at tl fr
                      exact ⟨rfl, fr.1, fr.2.1, fun q => absurd sq q, by rw [fr.2.2.2.2]; decide, T, K, tb, gs, fr.2.2.2.1, tl⟩
                    · skip
                      refine hd_aload pkX14_solveAll rfl rfl (Int.natCast_nonneg _) ?_
                      refine hd_getI pkX14_solveAll rfl (g46.cell 0 rfl).1 (g46.cell 0 rfl).2.1 (fun v11 ev11 rv11 => ?_)
                      have qv11 : rk = v11 := by rw [ev11]; exact fr.2.2.2.1.symm
                      subst qv11
                      have cut68 : ∀ (row : Int), (rk ≤ row ∧ row ≤ 4 * M) → (∀ r : Int, rk ≤ r → r < row → T r c = 0) → (row < 4 * M → T row c ≠ 0) → MW KX14_solveAll Q 0 0 (pcA pgX14_solveAll 68) [(0, (2, ((2495 : Nat) : Int))), (1, (0, c)), (2, (0, row))] [] hcl := by
                        intro row rw0 rz rn
                        refine hd_aload pkX14_solveAll rfl rfl (Int.natCast_nonneg _) ?_
                        refine hd_getR (n := 2508) pkX14_solveAll rfl (g46.cell 0 rfl).1 (g46.cell 0 rfl).2.1 (g46.ref 12 rfl) ?_
                        refine hd_iload pkX14_solveAll rfl rfl ?_
                        have cut79 : ∀ (tv : Int), ((row < 4 * M ∧ tv = rk) ∨ (4 * M ≤ row ∧ tv = -1)) → MW KX14_solveAll Q 0 0 (pcA pgX14_solveAll 79) [(0, (2, ((2495 : Nat) : Int))), (1, (0, c)), (2, (0, row))] [(0, tv), (0, c), (2, ((2508 : Nat) : Int))] hcl := by
                          intro tv tvv
                          refine hd_iast (n := 12) pkX14_solveAll rfl (g46.cell 13 rfl) (by decide) (by omega) (by omega) (fun hh12 ehh12 => ?_)
                          have ghh12 : Str t14 r14 hh12 := by rw [ehh12]; exact g46.setA rfl
                          have O1 : Only [2508] hcl hh12 := by rw [ehh12]; exact (Only.refl _ _).set List.mem_cons_self
                          have fr := fr.only O1 (by decide) (by decide)
                          have tb := tb.only O1 (by decide) (by decide)
                          have tl0 : TL hh12 2508 rk c tv := by rw [ehh12]; exact tl.set c0.1
                          refine hd_iload pkX14_solveAll rfl rfl ?_
                          refine hd_aload pkX14_solveAll rfl rfl (Int.natCast_nonneg _) ?_
                          refine hd_getI pkX14_solveAll rfl (ghh12.cell 0 rfl).1 (ghh12.cell 0 rfl).2.1 (fun v13 ev13 rv13 => ?_)
                          have qv13 : (4 * M) = v13 := by rw [ev13]; exact fr.2.2.1.symm
                          subst qv13
                          refine hd_ic_ge pkX14_solveAll rfl (fun c14 => ?_) (fun c14 => ?_)
                          · skip
                            refine hd_iinc (z := 1) pkX14_solveAll rfl rfl (by omega) rfl ?_
                            change MW _ _ _ _ _ [(1, (0, (c + 1))), (0, (2, ((2495 : Nat) : Int))), (2, (0, row))] _ _
                            refine hd_goto pkX14_solveAll rfl ?_
                            refine m_sub [(0, (2, ((2495 : Nat) : Int))), (1, (0, (c + 1)))] (List.forall_mem_cons.mpr ⟨rfl, List.forall_mem_cons.mpr ⟨rfl, fun _ h => absurd h List.not_mem_nil⟩⟩) ?_
                            refine ih46  ((c + 1)) hh12 ghh12 ?_ ?_ ?_
                            · omega
                            · first
                                | exact ⟨_, K + 1, frN, tb, gs2, tlN⟩
                                | (rw [hrk] at fr tl0 rz; exact ⟨T, K, fr, tb, gs.skipI c0.1 fun r h1 h2 => rz r h1 (by omega), tl0.bad (by omega) (by omega)⟩)
                            · omega
                          · skip
                            refine hd_aload pkX14_solveAll rfl rfl (Int.natCast_nonneg _) ?_
                            refine hd_iload pkX14_solveAll rfl rfl ?_
                            refine hd_aload pkX14_solveAll rfl rfl (Int.natCast_nonneg _) ?_
                            refine hd_getI pkX14_solveAll rfl (ghh12.cell 0 rfl).1 (ghh12.cell 0 rfl).2.1 (fun v15 ev15 rv15 => ?_)
                            have qv15 : rk = v15 := by rw [ev15]; exact fr.2.2.2.1.symm
                            subst qv15
                            refine hd_callV pkX14_solveAll rfl (q := (KX14_exchange, yX14_exchange, 14, 2, 0)) rfl rfl rfl (As := [(0, row), (0, rk)]) (rest := []) (c := 2495) rfl rfl (Nat.le_of_ble_eq_true rfl) (ghh12.cell 0 rfl).1 (ghh12.cell 0 rfl).2.1 (h_X14_exchange (by omega) (by omega) (by omega) (by omega) tb ghh12) (hd_bV (fun hc16 pe => ?_))
                            have ghc16 : Str t14 r14 hc16 := ghh12.only pe.1 (by decide)
                            have fr := fr.only pe.1 (by decide) (by decide)
                            have tl0 := tl0.only pe.1 (by decide)
                            have tb := pe.2
                            have gx1 := gs.ex (a := row) (by omega) (by omega)
                            rw [← hrk] at gx1
                            have n1 : exA T row rk rk c ≠ 0 := by
                              rw [exA_b]
                              exact rn (by omega)
                            generalize exA T row rk = T1 at tb gx1 n1
                            have gs2 := gx1.goI c0.1 (by omega) hrk (by omega) n1
                            have z1 : ∀ a x : Int, 0 ≤ a → a < 4 * M → 0 ≤ x → x < 28 → SzQ 12 (T1 a x) := fun a x a0 a1 x0 x1 => gx1.size (by omega) (by omega) a0 (by omega) x0 x1
                            have z2 : ∀ x : Int, 0 ≤ x → x < 28 → SzQ 12 (dvP T1 rk c 28 rk x) := fun x x0 x1 => by
                              have q := gs2.size (a := rk) (x := x) (by omega) (by omega) (by omega) (by omega) x0 x1
                              rw [elP_o (Or.inl rfl)] at q
                              exact q
                            have nn : (T1 rk c).num ≠ 0 := fun q => n1 (rat_num0 q)
                            refine hd_aload pkX14_solveAll rfl rfl (Int.natCast_nonneg _) ?_
                            refine hd_aload pkX14_solveAll rfl rfl (Int.natCast_nonneg _) ?_
                            refine hd_getI pkX14_solveAll rfl (ghc16.cell 0 rfl).1 (ghc16.cell 0 rfl).2.1 (fun v17 ev17 rv17 => ?_)
                            have qv17 : rk = v17 := by rw [ev17]; exact fr.2.2.2.1.symm
                            subst qv17
                            refine hd_iload pkX14_solveAll rfl rfl ?_
                            refine hd_callS pkX14_solveAll rfl (q := (KX14_cell, yX14_cell, 14, 2, 1)) rfl rfl rfl (As := [(0, rk), (0, c)]) (rest := [(2, ((2495 : Nat) : Int))]) rfl rfl (Nat.le_of_ble_eq_true rfl) rfl (h_X14_cell ⟨by omega, by omega⟩ ⟨by omega, by omega⟩ ghc16) (hd_bI (fun w18 hc19 p20 => ?_))
                            obtain ⟨p20, ehc19⟩ := p20
                            replace ehc19 := ehc19.symm
                            subst ehc19
                            subst p20
                            refine hd_ipush (z := 683) pkX14_solveAll rfl ?_
                            obtain ⟨V0, W0, d0⟩ := tb rk c (by omega) (by omega) (by omega) (by omega)
                            refine hd_callV pkX14_solveAll rfl (q := (KX14_copy, yX14_copy, 14, 2, 0)) rfl rfl rfl (As := [(0, (28 * rk + c)), (0, 683)]) (rest := []) (c := 2495) rfl rfl (Nat.le_of_ble_eq_true rfl) (ghc16.cell 0 rfl).1 (ghc16.cell 0 rfl).2.1 (h_X14_copy (by omega) (by omega) (by decide) (by decide) V0.1 ghc16) (hd_bV (fun hc21 pc => ?_))
                            have ghc21 : Str t14 r14 hc21 := ghc16.only pc.1.1 (by decide)
                            have fr := fr.only pc.1.1 (by decide) (by decide)
                            have tl0 := tl0.only pc.1.1 (by decide)
                            have tb := tb.keep pc.1 (by decide)
                            have W0 := W0.keep (by decide) pc.1 (by omega) (nm1 (by omega))
                            have VL := nv_copy V0 pc
                            refine hd_aload pkX14_solveAll rfl rfl (Int.natCast_nonneg _) ?_
                            refine hd_ipush (z := 336) pkX14_solveAll rfl ?_
                            refine hd_aload pkX14_solveAll rfl rfl (Int.natCast_nonneg _) ?_
                            refine hd_getI pkX14_solveAll rfl (ghc21.cell 0 rfl).1 (ghc21.cell 0 rfl).2.1 (fun v22 ev22 rv22 => ?_)
                            have qv22 : rk = v22 := by rw [ev22]; exact fr.2.2.2.1.symm
                            subst qv22
                            refine hd_iload pkX14_solveAll rfl rfl ?_
                            refine hd_callS pkX14_solveAll rfl (q := (KX14_cell, yX14_cell, 14, 2, 1)) rfl rfl rfl (As := [(0, rk), (0, c)]) (rest := [(0, 336), (2, ((2495 : Nat) : Int))]) rfl rfl (Nat.le_of_ble_eq_true rfl) rfl (h_X14_cell ⟨by omega, by omega⟩ ⟨by omega, by omega⟩ ghc21) (hd_bI (fun w23 hc24 p25 => ?_))
                            obtain ⟨p25, ehc24⟩ := p25
                            replace ehc24 := ehc24.symm
                            subst ehc24
                            subst p25
                            refine hd_iadd pkX14_solveAll rfl (by omega) ?_
                            refine hd_ipush (z := 684) pkX14_solveAll rfl ?_
                            refine hd_callV pkX14_solveAll rfl (q := (KX14_copy, yX14_copy, 14, 2, 0)) rfl rfl rfl (As := [(0, (336 + (28 * rk + c))), (0, 684)]) (rest := []) (c := 2495) rfl rfl (Nat.le_of_ble_eq_true rfl) (ghc21.cell 0 rfl).1 (ghc21.cell 0 rfl).2.1 (h_X14_copy (by omega) (by omega) (by decide) (by decide) W0.1 ghc21) (hd_bV (fun hc26 pc => ?_))
                            have ghc26 : Str t14 r14 hc26 := ghc21.only pc.1.1 (by decide)
                            have fr := fr.only pc.1.1 (by decide) (by decide)
                            have tl0 := tl0.only pc.1.1 (by decide)
                            have tb := tb.keep pc.1 (by decide)
                            have VL := VL.keep (by decide) pc.1 (by decide) (by decide)
                            have VL : Hr 70 2496 2497 hc26 683 684 (T1 rk c) := ⟨VL, nv_copy W0 pc, d0⟩
                            refine hd_iload pkX14_solveAll rfl rfl ?_
                            refine hd_istore pkX14_solveAll rfl rfl ?_
                            change MW _ _ _ _ _ [(3, (0, c)), (0, (2, ((2495 : Nat) : Int))), (1, (0, c)), (2, (0, row))] _ _
                            have lp107 : ∀ (N107 : Nat) (i : Int) (hi : MH), Str t14 r14 hi → (Kf 2496 2497 2495 2508 h hi (4 * M) rk) → (TL hi 2508 rk c tv) → (c ≤ i ∧ i ≤ 28) → (Tab 2496 2497 hi (dvP T1 rk c i)) → (Hr 70 2496 2497 hi 683 684 (T1 rk c)) → (28 : Int) - i < (N107 : Int) → MW KX14_solveAll Q 0 0 (pcA pgX14_solveAll 107) [(0, (2, ((2495 : Nat) : Int))), (1, (0, c)), (2, (0, row)), (3, (0, i))] [] hi := by
                              intro N107
                              induction N107 with
                              | zero => intro i hi g107 fr tl0 c1 tb VL hm107; exfalso; omega
                              | succ N107 ih107 =>
                                intro i hi g107 fr tl0 c1 tb VL hm107
                                refine hd_iload pkX14_solveAll rfl rfl ?_
                                refine hd_ipush (z := 28) pkX14_solveAll rfl ?_
                                refine hd_ic_ge pkX14_solveAll rfl (fun c27 => ?_) (fun c27 => ?_)
                                · skip
                                  refine hd_ipush (z := 0) pkX14_solveAll rfl ?_
                                  refine hd_istore pkX14_solveAll rfl rfl ?_
                                  change MW _ _ _ _ _ [(3, (0, 0)), (0, (2, ((2495 : Nat) : Int))), (1, (0, c)), (2, (0, row))] _ _
                                  have lp136 : ∀ (N136 : Nat) (r : Int) (hr : MH), Str t14 r14 hr → (Kf 2496 2497 2495 2508 h hr (4 * M) rk) → (TL hr 2508 rk c tv) → (0 ≤ r ∧ r ≤ 4 * M) → (Tab 2496 2497 hr (elP (dvP T1 rk c 28) rk c r)) → 4 * M - r < (N136 : Int) → MW KX14_solveAll Q 0 0 (pcA pgX14_solveAll 136) [(0, (2, ((2495 : Nat) : Int))), (1, (0, c)), (2, (0, row)), (3, (0, r))] [] hr := by
                                    intro N136
                                    induction N136 with
                                    | zero => intro r hr g136 fr tl0 c2 tb hm136; exfalso; omega
                                    | succ N136 ih136 =>
                                      intro r hr g136 fr tl0 c2 tb hm136
                                      refine hd_iload pkX14_solveAll rfl rfl ?_
                                      refine hd_aload pkX14_solveAll rfl rfl (Int.natCast_nonneg _) ?_
                                      refine hd_getI pkX14_solveAll rfl (g136.cell 0 rfl).1 (g136.cell 0 rfl).2.1 (fun v28 ev28 rv28 => ?_)
                                      have qv28 : (4 * M) = v28 := by rw [ev28]; exact fr.2.2.1.symm
                                      subst qv28
                                      refine hd_ic_ge pkX14_solveAll rfl (fun c29 => ?_) (fun c29 => ?_)
                                      · skip
                                        refine hd_aload pkX14_solveAll rfl rfl (Int.natCast_nonneg _) ?_
                                        refine hd_dup pkX14_solveAll rfl rfl ?_
                                        refine hd_getI pkX14_solveAll rfl (g136.cell 0 rfl).1 (g136.cell 0 rfl).2.1 (fun v30 ev30 rv30 => ?_)
                                        have qv30 : rk = v30 := by rw [ev30]; exact fr.2.2.2.1.symm
                                        subst qv30
                                        refine hd_ipush (z := 1) pkX14_solveAll rfl ?_
                                        refine hd_iadd pkX14_solveAll rfl (by omega) ?_
                                        refine hd_putI pkX14_solveAll rfl (g136.cell 0 rfl).1 (g136.cell 0 rfl).2.1 (fun hh31 ehh31 => ?_)
                                        have ghh31 : Str t14 r14 hh31 := by rw [ehh31]; exact g136.setF rfl
                                        have O1 : Only [2495] hr hh31 := by rw [ehh31]; exact (Only.refl _ _).set List.mem_cons_self
                                        have f1 : ∀ j : Int, 0 ≤ j → j ≠ 18 → ga hh31 2495 j = ga hr 2495 j := fun j j0 j1 => by
                                          rw [ehh31]
                                          exact (ga_sa _ _ _ (by decide) j0).trans (if_neg j1)
                                        have f2 : ga hh31 2495 18 = rk + 1 := by
                                          rw [ehh31]
                                          exact (ga_sa _ _ _ (by decide) (by decide)).trans (if_pos rfl)
                                        have u8 : r = 4 * M := by omega
                                        rw [u8] at tb
                                        have tb := tb.only O1 (by decide) (by decide)
                                        have tlN := (tl0.only O1 (by decide)).good (by omega) (by omega)
                                        rw [show rk + 1 = ((K + 1 : Nat) : Int) by omega] at tlN
                                        have frN : Kf 2496 2497 2495 2508 h hh31 (4 * M) ((K + 1 : Nat) : Int) := ⟨fr.1.trans (O1.mono (by decide)), fun j j0 a b c => (f1 j j0 c).trans (fr.2.1 j j0 a b c), (f1 17 (by decide) (by decide)).trans fr.2.2.1, by omega, (f1 16 (by decide) (by decide)).trans fr.2.2.2.2⟩
                                        refine hd_iinc (z := 1) pkX14_solveAll rfl rfl (by omega) rfl ?_
                                        change MW _ _ _ _ _ [(1, (0, (c + 1))), (0, (2, ((2495 : Nat) : Int))), (2, (0, row)), (3, (0, r))] _ _
                                        refine hd_goto pkX14_solveAll rfl ?_
                                        refine m_sub [(0, (2, ((2495 : Nat) : Int))), (1, (0, (c + 1)))] (List.forall_mem_cons.mpr ⟨rfl, List.forall_mem_cons.mpr ⟨rfl, fun _ h => absurd h List.not_mem_nil⟩⟩) ?_
                                        refine ih46  ((c + 1)) hh31 ghh31 ?_ ?_ ?_
                                        · omega
                                        · first
                                            | exact ⟨_, K + 1, frN, tb, gs2, tlN⟩
                                            | (rw [hrk] at fr tl0 rz; exact ⟨T, K, fr, tb, gs.skipI c0.1 fun r h1 h2 => rz r h1 (by omega), tl0.bad (by omega) (by omega)⟩)
                                        · omega
                                      · skip
                                        refine hd_iload pkX14_solveAll rfl rfl ?_
                                        refine hd_aload pkX14_solveAll rfl rfl (Int.natCast_nonneg _) ?_
                                        refine hd_getI pkX14_solveAll rfl (g136.cell 0 rfl).1 (g136.cell 0 rfl).2.1 (fun v32 ev32 rv32 => ?_)
                                        have qv32 : rk = v32 := by rw [ev32]; exact fr.2.2.2.1.symm
                                        subst qv32
                                        refine hd_ic_eq pkX14_solveAll rfl (fun c33 => ?_) (fun c33 => ?_)
                                        · skip
                                          refine hd_iinc (z := 1) pkX14_solveAll rfl rfl (by omega) rfl ?_
                                          change MW _ _ _ _ _ [(3, (0, (r + 1))), (0, (2, ((2495 : Nat) : Int))), (1, (0, c)), (2, (0, row))] _ _
                                          refine hd_goto pkX14_solveAll rfl ?_
                                          refine m_sub [(0, (2, ((2495 : Nat) : Int))), (1, (0, c)), (2, (0, row)), (3, (0, (r + 1)))] (List.forall_mem_cons.mpr ⟨rfl, List.forall_mem_cons.mpr ⟨rfl, List.forall_mem_cons.mpr ⟨rfl, List.forall_mem_cons.mpr ⟨rfl, fun _ h => absurd h List.not_mem_nil⟩⟩⟩⟩) ?_
                                          refine ih136  ((r + 1)) hr g136 ?_ ?_ ?_ ?_ ?_
                                          · exact fr
                                          · exact tl0
                                          · omega
                                          · first
                                              | exact tbN
                                              | exact tb.el0 (Or.inr hz)
                                              | exact tb.el0 (Or.inl (by omega))
                                          · omega
                                        · skip
                                          refine hd_aload pkX14_solveAll rfl rfl (Int.natCast_nonneg _) ?_
                                          refine hd_getR (n := 2497) pkX14_solveAll rfl (g136.cell 0 rfl).1 (g136.cell 0 rfl).2.1 (g136.ref 1 rfl) ?_
                                          refine hd_iload pkX14_solveAll rfl rfl ?_
                                          refine hd_iload pkX14_solveAll rfl rfl ?_
                                          refine hd_callS pkX14_solveAll rfl (q := (KX14_cell, yX14_cell, 14, 2, 1)) rfl rfl rfl (As := [(0, r), (0, c)]) (rest := [(2, ((2497 : Nat) : Int))]) rfl rfl (Nat.le_of_ble_eq_true rfl) rfl (h_X14_cell ⟨by omega, by omega⟩ ⟨by omega, by omega⟩ g136) (hd_bI (fun w34 hc35 p36 => ?_))
                                          obtain ⟨p36, ehc35⟩ := p36
                                          replace ehc35 := ehc35.symm
                                          subst ehc35
                                          subst p36
                                          refine hd_iald (n := 690) pkX14_solveAll rfl (g136.cell 2 rfl) (by omega) (by omega) (fun v37 ev37 rv37 => ?_)
                                          have ed : dvP T1 rk c 28 r c = T1 r c := dvP_o (by omega)
                                          have sv : v37 = (T1 r c).num.sign := by
                                            rw [ev37]
                                            exact ((tb r c (by omega) (by omega) (by omega) (by omega)).r ((elP_o (Or.inr (Or.inl (Int.le_refl _)))).trans ed)).1.2.2
                                          have st := sgn3 (T1 r c).num
                                          refine hd_if_eq pkX14_solveAll rfl (fun c38 => ?_) (fun c38 => ?_)
                                          · skip
                                            have hz : dvP T1 rk c 28 r c = 0 := ed.trans (rat_num0 (by omega))
                                            refine hd_iinc (z := 1) pkX14_solveAll rfl rfl (by omega) rfl ?_
                                            change MW _ _ _ _ _ [(3, (0, (r + 1))), (0, (2, ((2495 : Nat) : Int))), (1, (0, c)), (2, (0, row))] _ _
                                            refine hd_goto pkX14_solveAll rfl ?_
                                            refine m_sub [(0, (2, ((2495 : Nat) : Int))), (1, (0, c)), (2, (0, row)), (3, (0, (r + 1)))] (List.forall_mem_cons.mpr ⟨rfl, List.forall_mem_cons.mpr ⟨rfl, List.forall_mem_cons.mpr ⟨rfl, List.forall_mem_cons.mpr ⟨rfl, fun _ h => absurd h List.not_mem_nil⟩⟩⟩⟩) ?_
                                            refine ih136  ((r + 1)) hr g136 ?_ ?_ ?_ ?_ ?_
                                            · exact fr
                                            · exact tl0
                                            · omega
                                            · first
                                                | exact tbN
                                                | exact tb.el0 (Or.inr hz)
                                                | exact tb.el0 (Or.inl (by omega))
                                            · omega
                                          · skip
                                            refine hd_aload pkX14_solveAll rfl rfl (Int.natCast_nonneg _) ?_
                                            refine hd_iload pkX14_solveAll rfl rfl ?_
                                            refine hd_iload pkX14_solveAll rfl rfl ?_
                                            have ba : ∀ k : Int, c ≤ k → k < 28 → SzQ 12 (elP (dvP T1 rk c 28) rk c r r k) := fun k k0 k1 => by
                                              rw [elP_o (Or.inr (Or.inl (Int.le_refl _))), dvP_o (by omega)]
                                              exact z1 r k (by omega) (by omega) (by omega) k1
                                            have bb : ∀ k : Int, c ≤ k → k < 28 → SzQ 12 (elP (dvP T1 rk c 28) rk c r rk k) := fun k k0 k1 => by
                                              rw [elP_o (Or.inl rfl)]
                                              exact z2 k (by omega) k1
                                            refine hd_callV pkX14_solveAll rfl (q := (KX14_takeRow, yX14_takeRow, 14, 2, 0)) rfl rfl rfl (As := [(0, r), (0, c)]) (rest := []) (c := 2495) rfl rfl (Nat.le_of_ble_eq_true rfl) (g136.cell 0 rfl).1 (g136.cell 0 rfl).2.1 (h_X14_takeRow (m := 12) (by omega) (by omega) (by omega) (by omega) (by omega) (by omega) (by omega) fr.2.2.2.1 tb ba bb (by decide) g136) (hd_bV (fun hc39 pt => ?_))
                                            have ghc39 : Str t14 r14 hc39 := g136.only pt.1 (by decide)
                                            have fr := fr.only pt.1 (by decide) (by decide)
                                            have tl0 := tl0.only pt.1 (by decide)
                                            have tbN := pt.2.el (by omega)
                                            refine hd_iinc (z := 1) pkX14_solveAll rfl rfl (by omega) rfl ?_
                                            change MW _ _ _ _ _ [(3, (0, (r + 1))), (0, (2, ((2495 : Nat) : Int))), (1, (0, c)), (2, (0, row))] _ _
                                            refine hd_goto pkX14_solveAll rfl ?_
                                            refine m_sub [(0, (2, ((2495 : Nat) : Int))), (1, (0, c)), (2, (0, row)), (3, (0, (r + 1)))] (List.forall_mem_cons.mpr ⟨rfl, List.forall_mem_cons.mpr ⟨rfl, List.forall_mem_cons.mpr ⟨rfl, List.forall_mem_cons.mpr ⟨rfl, fun _ h => absurd h List.not_mem_nil⟩⟩⟩⟩) ?_
                                            refine ih136  ((r + 1)) hc39 ghc39 ?_ ?_ ?_ ?_ ?_
                                            · exact fr
                                            · exact tl0
                                            · omega
                                            · first
                                                | exact tbN
                                                | exact tb.el0 (Or.inr hz)
                                                | exact tb.el0 (Or.inl (by omega))
                                            · omega
                                  have u9 : i = 28 := by omega
                                  rw [u9] at tb
                                  refine m_sub [(0, (2, ((2495 : Nat) : Int))), (1, (0, c)), (2, (0, row)), (3, (0, 0))] (List.forall_mem_cons.mpr ⟨rfl, List.forall_mem_cons.mpr ⟨rfl, List.forall_mem_cons.mpr ⟨rfl, List.forall_mem_cons.mpr ⟨rfl, fun _ h => absurd h List.not_mem_nil⟩⟩⟩⟩) ?_
                                  refine lp136 ((4 * M - (0)) + 1).toNat (0) hi g107 ?_ ?_ ?_ ?_ ?_
                                  · exact fr
                                  · exact tl0
                                  · omega
                                  · exact tb.elS
                                  · omega
                                · skip
                                  obtain ⟨VA, WA, dA⟩ := (tb rk i (by omega) (by omega) (by omega) (by omega)).r (dvP_o (Or.inr (Or.inl (Int.le_refl _))))
                                  refine hd_aload pkX14_solveAll rfl rfl (Int.natCast_nonneg _) ?_
                                  refine hd_getR (n := 2497) pkX14_solveAll rfl (g107.cell 0 rfl).1 (g107.cell 0 rfl).2.1 (g107.ref 1 rfl) ?_
                                  refine hd_aload pkX14_solveAll rfl rfl (Int.natCast_nonneg _) ?_
                                  refine hd_getI pkX14_solveAll rfl (g107.cell 0 rfl).1 (g107.cell 0 rfl).2.1 (fun v40 ev40 rv40 => ?_)
                                  have qv40 : rk = v40 := by rw [ev40]; exact fr.2.2.2.1.symm
                                  subst qv40
                                  refine hd_iload pkX14_solveAll rfl rfl ?_
                                  refine hd_callS pkX14_solveAll rfl (q := (KX14_cell, yX14_cell, 14, 2, 1)) rfl rfl rfl (As := [(0, rk), (0, i)]) (rest := [(2, ((2497 : Nat) : Int))]) rfl rfl (Nat.le_of_ble_eq_true rfl) rfl (h_X14_cell ⟨by omega, by omega⟩ ⟨by omega, by omega⟩ g107) (hd_bI (fun w41 hc42 p43 => ?_))
                                  obtain ⟨p43, ehc42⟩ := p43
                                  replace ehc42 := ehc42.symm
                                  subst ehc42
                                  subst p43
                                  refine hd_iald (n := 690) pkX14_solveAll rfl (g107.cell 2 rfl) (by omega) (by omega) (fun v44 ev44 rv44 => ?_)
                                  have sv : v44 = (T1 rk i).num.sign := by rw [ev44]; exact VA.2.2
                                  have st := sgn3 (T1 rk i).num
                                  refine hd_if_eq pkX14_solveAll rfl (fun c45 => ?_) (fun c45 => ?_)
                                  · skip
                                    have hz : T1 rk i = 0 := rat_num0 (by omega)
                                    refine hd_iinc (z := 1) pkX14_solveAll rfl rfl (by omega) rfl ?_
                                    change MW _ _ _ _ _ [(3, (0, (i + 1))), (0, (2, ((2495 : Nat) : Int))), (1, (0, c)), (2, (0, row))] _ _
                                    refine hd_goto pkX14_solveAll rfl ?_
                                    refine m_sub [(0, (2, ((2495 : Nat) : Int))), (1, (0, c)), (2, (0, row)), (3, (0, (i + 1)))] (List.forall_mem_cons.mpr ⟨rfl, List.forall_mem_cons.mpr ⟨rfl, List.forall_mem_cons.mpr ⟨rfl, List.forall_mem_cons.mpr ⟨rfl, fun _ h => absurd h List.not_mem_nil⟩⟩⟩⟩) ?_
                                    refine ih107  ((i + 1)) hi g107 ?_ ?_ ?_ ?_ ?_ ?_
                                    · exact fr
                                    · exact tl0
                                    · omega
                                    · first
                                        | exact tbN
                                        | exact tb.dv0 hz
                                    · exact VL
                                    · omega
                                  · skip
                                    refine hd_aload pkX14_solveAll rfl rfl (Int.natCast_nonneg _) ?_
                                    refine hd_aload pkX14_solveAll rfl rfl (Int.natCast_nonneg _) ?_
                                    refine hd_getI pkX14_solveAll rfl (g107.cell 0 rfl).1 (g107.cell 0 rfl).2.1 (fun v46 ev46 rv46 => ?_)
                                    have qv46 : rk = v46 := by rw [ev46]; exact fr.2.2.2.1.symm
                                    subst qv46
                                    refine hd_iload pkX14_solveAll rfl rfl ?_
                                    refine hd_callS pkX14_solveAll rfl (q := (KX14_cell, yX14_cell, 14, 2, 1)) rfl rfl rfl (As := [(0, rk), (0, i)]) (rest := [(2, ((2495 : Nat) : Int))]) rfl rfl (Nat.le_of_ble_eq_true rfl) rfl (h_X14_cell ⟨by omega, by omega⟩ ⟨by omega, by omega⟩ g107) (hd_bI (fun w47 hc48 p49 => ?_))
                                    obtain ⟨p49, ehc48⟩ := p49
                                    replace ehc48 := ehc48.symm
                                    subst ehc48
                                    subst p49
                                    refine hd_ipush (z := 336) pkX14_solveAll rfl ?_
                                    refine hd_aload pkX14_solveAll rfl rfl (Int.natCast_nonneg _) ?_
                                    refine hd_getI pkX14_solveAll rfl (g107.cell 0 rfl).1 (g107.cell 0 rfl).2.1 (fun v50 ev50 rv50 => ?_)
                                    have qv50 : rk = v50 := by rw [ev50]; exact fr.2.2.2.1.symm
                                    subst qv50
                                    refine hd_iload pkX14_solveAll rfl rfl ?_
                                    refine hd_callS pkX14_solveAll rfl (q := (KX14_cell, yX14_cell, 14, 2, 1)) rfl rfl rfl (As := [(0, rk), (0, i)]) (rest := [(0, 336), (0, (28 * rk + i)), (2, ((2495 : Nat) : Int))]) rfl rfl (Nat.le_of_ble_eq_true rfl) rfl (h_X14_cell ⟨by omega, by omega⟩ ⟨by omega, by omega⟩ g107) (hd_bI (fun w51 hc52 p53 => ?_))
                                    obtain ⟨p53, ehc52⟩ := p53
                                    replace ehc52 := ehc52.symm
                                    subst ehc52
                                    subst p53
                                    refine hd_iadd pkX14_solveAll rfl (by omega) ?_
                                    refine hd_ipush (z := 683) pkX14_solveAll rfl ?_
                                    refine hd_ipush (z := 684) pkX14_solveAll rfl ?_
                                    have bA := z1 rk i (by omega) (by omega) (by omega) (by omega)
                                    have bC := z1 rk c (by omega) (by omega) (by omega) (by omega)
                                    refine hd_callV pkX14_solveAll rfl (q := (KX14_divideFraction, yX14_divideFraction, 14, 4, 0)) rfl rfl rfl (As := [(0, (28 * rk + i)), (0, (336 + (28 * rk + i))), (0, 683), (0, 684)]) (rest := []) (c := 2495) rfl rfl (Nat.le_of_ble_eq_true rfl) (g107.cell 0 rfl).1 (g107.cell 0 rfl).2.1 (h_X14_divideFraction (m1 := 12) (m2 := 12) (by omega) (by omega) (by omega) (by omega) (by decide) (by decide) (by decide) (by decide) (by omega) (by simp only [List.mem_cons, List.not_mem_nil, or_false, not_or]; omega) (by simp only [List.mem_cons, List.not_mem_nil, or_false, not_or]; omega) (by decide) (by decide) ⟨VA, WA, dA⟩ VL nn bA.1 bA.2 bC.1 bC.2 (by decide) g107) (hd_bV (fun hc54 pd => ?_))
                                    have ghc54 : Str t14 r14 hc54 := g107.only pd.1.1 (by decide)
                                    have fr := fr.only pd.1.1 (by decide) (by decide)
                                    have tl0 := tl0.only pd.1.1 (by decide)
                                    have VL := VL.keep (by decide) pd.1 (by decide) (by decide) (by simp only [List.mem_cons, List.not_mem_nil, or_false, not_or]; omega) (by simp only [List.mem_cons, List.not_mem_nil, or_false, not_or]; omega)
                                    have tbN := (tb.set pd.1 (by decide) (by omega) (by omega) (by omega) (by omega) (pd.2.r (rat_div _ _))).dv rfl c1.1
                                    refine hd_iinc (z := 1) pkX14_solveAll rfl rfl (by omega) rfl ?_
                                    change MW _ _ _ _ _ [(3, (0, (i + 1))), (0, (2, ((2495 : Nat) : Int))), (1, (0, c)), (2, (0, row))] _ _
                                    refine hd_goto pkX14_solveAll rfl ?_
                                    refine m_sub [(0, (2, ((2495 : Nat) : Int))), (1, (0, c)), (2, (0, row)), (3, (0, (i + 1)))] (List.forall_mem_cons.mpr ⟨rfl, List.forall_mem_cons.mpr ⟨rfl, List.forall_mem_cons.mpr ⟨rfl, List.forall_mem_cons.mpr ⟨rfl, fun _ h => absurd h List.not_mem_nil⟩⟩⟩⟩) ?_
                                    refine ih107  ((i + 1)) hc54 ghc54 ?_ ?_ ?_ ?_ ?_ ?_
                                    · exact fr
                                    · exact tl0
                                    · omega
                                    · first
                                        | exact tbN
                                        | exact tb.dv0 hz
                                    · exact VL
                                    · omega
                            refine m_sub [(0, (2, ((2495 : Nat) : Int))), (1, (0, c)), (2, (0, row)), (3, (0, c))] (List.forall_mem_cons.mpr ⟨rfl, List.forall_mem_cons.mpr ⟨rfl, List.forall_mem_cons.mpr ⟨rfl, List.forall_mem_cons.mpr ⟨rfl, fun _ h => absurd h List.not_mem_nil⟩⟩⟩⟩) ?_
                            refine lp107 (((28 : Int) - (c)) + 1).toNat (c) hc26 ghc26 ?_ ?_ ?_ ?_ ?_ ?_
                            · exact fr
                            · exact tl0
                            · omega
                            · exact tb.dvS
                            · exact VL
                            · omega
                        refine hd_iload pkX14_solveAll rfl rfl ?_
                        refine hd_aload pkX14_solveAll rfl rfl (Int.natCast_nonneg _) ?_
                        refine hd_getI pkX14_solveAll rfl (g46.cell 0 rfl).1 (g46.cell 0 rfl).2.1 (fun v55 ev55 rv55 => ?_)
                        have qv55 : (4 * M) = v55 := by rw [ev55]; exact fr.2.2.1.symm
                        subst qv55
                        refine hd_ic_ge pkX14_solveAll rfl (fun c56 => ?_) (fun c56 => ?_)
                        · skip
                          refine hd_ipush (z := (-1)) pkX14_solveAll rfl ?_
                          refine cut79 ((-1)) ?_
                          · omega
                        · skip
                          refine hd_aload pkX14_solveAll rfl rfl (Int.natCast_nonneg _) ?_
                          refine hd_getI pkX14_solveAll rfl (g46.cell 0 rfl).1 (g46.cell 0 rfl).2.1 (fun v57 ev57 rv57 => ?_)
                          have qv57 : rk = v57 := by rw [ev57]; exact fr.2.2.2.1.symm
                          subst qv57
                          refine hd_goto pkX14_solveAll rfl ?_
                          refine cut79 (rk) ?_
                          · omega
                      refine hd_istore pkX14_solveAll rfl rfl ?_
                      change MW _ _ _ _ _ [(2, (0, rk)), (0, (2, ((2495 : Nat) : Int))), (1, (0, c))] _ _
                      have lp55 : ∀ (N55 : Nat) (row : Int), (rk ≤ row ∧ row ≤ 4 * M) → (∀ r : Int, rk ≤ r → r < row → T r c = 0) → 4 * M - row < (N55 : Int) → MW KX14_solveAll Q 0 0 (pcA pgX14_solveAll 55) [(0, (2, ((2495 : Nat) : Int))), (1, (0, c)), (2, (0, row))] [] hcl := by
                        intro N55
                        induction N55 with
                        | zero => intro row w0 wz hm55; exfalso; omega
                        | succ N55 ih55 =>
                          intro row w0 wz hm55
                          refine hd_iload pkX14_solveAll rfl rfl ?_
                          refine hd_aload pkX14_solveAll rfl rfl (Int.natCast_nonneg _) ?_
                          refine hd_getI pkX14_solveAll rfl (g46.cell 0 rfl).1 (g46.cell 0 rfl).2.1 (fun v58 ev58 rv58 => ?_)
                          have qv58 : (4 * M) = v58 := by rw [ev58]; exact fr.2.2.1.symm
                          subst qv58
                          refine hd_ic_ge pkX14_solveAll rfl (fun c59 => ?_) (fun c59 => ?_)
                          · skip
                            refine cut68 (row) ?_ ?_ ?_
                            · omega
                            · exact wz
                            · first
                                | (intro q; exfalso; omega)
                                | (intro _ q
                                   have : (T row c).num.sign = 0 := by rw [q]; rfl
                                   omega)
                          · skip
                            refine hd_aload pkX14_solveAll rfl rfl (Int.natCast_nonneg _) ?_
                            refine hd_getR (n := 2497) pkX14_solveAll rfl (g46.cell 0 rfl).1 (g46.cell 0 rfl).2.1 (g46.ref 1 rfl) ?_
                            refine hd_iload pkX14_solveAll rfl rfl ?_
                            refine hd_iload pkX14_solveAll rfl rfl ?_
                            refine hd_callS pkX14_solveAll rfl (q := (KX14_cell, yX14_cell, 14, 2, 1)) rfl rfl rfl (As := [(0, row), (0, c)]) (rest := [(2, ((2497 : Nat) : Int))]) rfl rfl (Nat.le_of_ble_eq_true rfl) rfl (h_X14_cell ⟨by omega, by omega⟩ ⟨by omega, by omega⟩ g46) (hd_bI (fun w60 hc61 p62 => ?_))
                            obtain ⟨p62, ehc61⟩ := p62
                            replace ehc61 := ehc61.symm
                            subst ehc61
                            subst p62
                            refine hd_iald (n := 690) pkX14_solveAll rfl (g46.cell 2 rfl) (by omega) (by omega) (fun v63 ev63 rv63 => ?_)
                            have sv : v63 = (T row c).num.sign := by rw [ev63]; exact (tb row c (by omega) (by omega) (by omega) (by omega)).1.2.2
                            have st := sgn3 (T row c).num
                            refine hd_if_ne pkX14_solveAll rfl (fun c64 => ?_) (fun c64 => ?_)
                            · skip
                              refine cut68 (row) ?_ ?_ ?_
                              · omega
                              · exact wz
                              · first
                                  | (intro q; exfalso; omega)
                                  | (intro _ q
                                     have : (T row c).num.sign = 0 := by rw [q]; rfl
                                     omega)
                            · skip
                              have hz : T row c = 0 := rat_num0 (by omega)
                              refine hd_iinc (z := 1) pkX14_solveAll rfl rfl (by omega) rfl ?_
                              change MW _ _ _ _ _ [(2, (0, (row + 1))), (0, (2, ((2495 : Nat) : Int))), (1, (0, c))] _ _
                              refine hd_goto pkX14_solveAll rfl ?_
                              refine m_sub [(0, (2, ((2495 : Nat) : Int))), (1, (0, c)), (2, (0, (row + 1)))] (List.forall_mem_cons.mpr ⟨rfl, List.forall_mem_cons.mpr ⟨rfl, List.forall_mem_cons.mpr ⟨rfl, fun _ h => absurd h List.not_mem_nil⟩⟩⟩) ?_
                              refine ih55  ((row + 1)) ?_ ?_ ?_
                              · omega
                              · intro r h1 h2
                                by_cases q : r = row
                                · rw [q]
                                  exact hz
                                · exact wz r h1 (by omega)
                              · omega
                      refine m_sub [(0, (2, ((2495 : Nat) : Int))), (1, (0, c)), (2, (0, rk))] (List.forall_mem_cons.mpr ⟨rfl, List.forall_mem_cons.mpr ⟨rfl, List.forall_mem_cons.mpr ⟨rfl, fun _ h => absurd h List.not_mem_nil⟩⟩⟩) ?_
                      refine lp55 ((4 * M - (rk)) + 1).toNat (rk) ?_ ?_ ?_
                      · omega
                      · intro r h1 h2
                        omega
                      · omega
                refine m_sub [(0, (2, ((2495 : Nat) : Int))), (1, (0, 0))] (List.forall_mem_cons.mpr ⟨rfl, List.forall_mem_cons.mpr ⟨rfl, fun _ h => absurd h List.not_mem_nil⟩⟩) ?_
                refine lp46 ((4 * M - (0)) + 1).toNat (0) hh8 ghh8 ?_ ?_ ?_
                · omega
                · exact ⟨A1, 0, fr, tb, gs, TB.zero _ _⟩
                · omega
              · skip
                refine hd_aload pkX14_solveAll rfl rfl (Int.natCast_nonneg _) ?_
                refine hd_iload pkX14_solveAll rfl rfl ?_
                obtain ⟨e1, O1, e2, O2, q1, b1, b2, b3, q2, b4, b5, b6, E1, E2, E3, E4, pl2⟩ := node_plan (by omega) ⟨hM1, hM3⟩ pl
                have eL : ∀ k : Int, ga hn 2498 k = ga h 2498 k := fun k => hO.ga (by decide) k
                have eS : ∀ k : Int, ga hn 2499 k = ga h 2499 k := fun k => hO.ga (by decide) k
                have eT : ∀ k : Int, ga hn 2503 k = ga h 2503 k := fun k => hO.ga (by decide) k
                have hM9 := (hF 3 (by decide) (by decide) (by decide) (by decide)).trans hM
                refine hd_callV pkX14_solveAll rfl (q := (KX14_heights, yX14_heights, 14, 1, 0)) rfl rfl rfl (As := [(0, n)]) (rest := []) (c := 2495) rfl rfl (Nat.le_of_ble_eq_true rfl) (g29.cell 0 rfl).1 (g29.cell 0 rfl).2.1 (h_X14_heights (by omega) (by omega) hM1 hM3 hM9 hE E1 E2 q1 b1 b2 b3 (fun k k0 k1 => by rw [eL, eS]; exact hBE k k0 k1) (fun j j0 j1 => by rw [eT]; exact hs j j0 j1) tb pr g29) (hd_bV (fun hc65 ph => ?_))
                have ghc65 : Str t14 r14 hc65 := g29.but ph.1 ph.2.2.1 (by decide)
                have hO := hO.trans (ph.1.mono (by decide))
                have hE := ph.2.1
                have hF := fun (j : Int) (j0 : 0 ≤ j) (a : j ≠ 16) (b : j ≠ 17) (c : j ≠ 18) => (ph.2.2.1 j j0 b).trans (hF j j0 a b c)
                have h16 := (ph.2.2.1 16 (by decide) (by decide)).trans h16
                obtain ⟨A1, tb, pr⟩ := ph.2.2.2
                refine hd_aload pkX14_solveAll rfl rfl (Int.natCast_nonneg _) ?_
                refine hd_iload pkX14_solveAll rfl rfl ?_
                have eL : ∀ k : Int, ga hc65 2498 k = ga h 2498 k := fun k => hO.ga (by decide) k
                have eS : ∀ k : Int, ga hc65 2499 k = ga h 2499 k := fun k => hO.ga (by decide) k
                have eT : ∀ k : Int, ga hc65 2503 k = ga h 2503 k := fun k => hO.ga (by decide) k
                have hM9 := (hF 3 (by decide) (by decide) (by decide) (by decide)).trans hM
                refine hd_callV pkX14_solveAll rfl (q := (KX14_turns, yX14_turns, 14, 1, 0)) rfl rfl rfl (As := [(0, n)]) (rest := []) (c := 2495) rfl rfl (Nat.le_of_ble_eq_true rfl) (ghc65.cell 0 rfl).1 (ghc65.cell 0 rfl).2.1 (h_X14_turns (by omega) (by omega) hM1 hM3 hM9 hE E3 E4 q2 b4 b5 b6 (fun k k0 k1 => by rw [eL, eS]; exact hBE k k0 k1) tb pr ghc65) (hd_bV (fun hc66 ph => ?_))
                have ghc66 : Str t14 r14 hc66 := ghc65.but ph.1 ph.2.2.1 (by decide)
                have hO := hO.trans (ph.1.mono (by decide))
                have hE := ph.2.1
                have hF := fun (j : Int) (j0 : 0 ≤ j) (a : j ≠ 16) (b : j ≠ 17) (c : j ≠ 18) => (ph.2.2.1 j j0 b).trans (hF j j0 a b c)
                have h16 := (ph.2.2.1 16 (by decide) (by decide)).trans h16
                obtain ⟨A1, tb, pr⟩ := ph.2.2.2
                refine hd_iinc (z := 1) pkX14_solveAll rfl rfl (by omega) rfl ?_
                change MW _ _ _ _ _ [(1, (0, (n + 1))), (0, (2, ((2495 : Nat) : Int)))] _ _
                refine hd_goto pkX14_solveAll rfl ?_
                refine m_sub [(0, (2, ((2495 : Nat) : Int))), (1, (0, (n + 1)))] (List.forall_mem_cons.mpr ⟨rfl, List.forall_mem_cons.mpr ⟨rfl, fun _ h => absurd h List.not_mem_nil⟩⟩) ?_
                refine ih29  ((n + 1)) hc66 ghc66 ?_ ?_ ?_ ?_ ?_ ?_
                · exact hO
                · exact hF
                · exact h16
                · omega
                · exact ⟨A1, e2, O2, hE, tb, pr, pl2⟩
                · omega
          refine m_sub [(0, (2, ((2495 : Nat) : Int))), (1, (0, 0))] (List.forall_mem_cons.mpr ⟨rfl, List.forall_mem_cons.mpr ⟨rfl, fun _ h => absurd h List.not_mem_nil⟩⟩) ?_
          refine lp29 ((M + 1 - (0)) + 1).toNat (0) hh5 ghh5 ?_ ?_ ?_ ?_ ?_ ?_
          · exact hO
          · exact hF
          · exact h16
          · omega
          · exact ⟨_, 0, 1, hE, tb, Prt.none, Or.inl ⟨rfl, rfl, rfl⟩⟩
          · omega
        · skip
          refine hd_aload pkX14_solveAll rfl rfl (Int.natCast_nonneg _) ?_
          refine hd_iload pkX14_solveAll rfl rfl ?_
          refine hd_lpush (z := 0) pkX14_solveAll rfl ?_
          refine hd_callV pkX14_solveAll rfl (q := (KX14_small, yX14_small, 14, 2, 0)) rfl rfl rfl (As := [(0, k), (1, 0)]) (rest := []) (c := 2495) rfl rfl (Nat.le_of_ble_eq_true rfl) (g9.cell 0 rfl).1 (g9.cell 0 rfl).2.1 (h_X14_small (by omega) (by omega) (by decide) g9) (hd_bV (fun hc67 ps => ?_))
          have ghc67 : Str t14 r14 hc67 := g9.only ps.1.1 (by decide)
          have hO := hO.trans (ps.1.1.mono (by decide))
          have hF := fun (j : Int) (j0 : 0 ≤ j) (a : j ≠ 16) (b : j ≠ 17) (c : j ≠ 18) => (ps.1.1.ga (by decide) j).trans (hF j j0 a b c)
          have h16 := (ps.1.1.ga (by decide) _).trans h16
          have nz := fun (i : Int) (i0 : 0 ≤ i) (i1 : i < k) => And.intro ((nz i i0 i1).1.keep (by decide) ps.1 (by omega) (nm1 (by omega))) ((nz i i0 i1).2.keep (by decide) ps.1 (by omega) (nm1 (by omega)))
          have nA := nv_small ps
          refine hd_aload pkX14_solveAll rfl rfl (Int.natCast_nonneg _) ?_
          refine hd_ipush (z := 336) pkX14_solveAll rfl ?_
          refine hd_iload pkX14_solveAll rfl rfl ?_
          refine hd_iadd pkX14_solveAll rfl (by omega) ?_
          refine hd_lpush (z := 1) pkX14_solveAll rfl ?_
          refine hd_callV pkX14_solveAll rfl (q := (KX14_small, yX14_small, 14, 2, 0)) rfl rfl rfl (As := [(0, (336 + k)), (1, 1)]) (rest := []) (c := 2495) rfl rfl (Nat.le_of_ble_eq_true rfl) (ghc67.cell 0 rfl).1 (ghc67.cell 0 rfl).2.1 (h_X14_small (by omega) (by omega) (by decide) ghc67) (hd_bV (fun hc68 ps => ?_))
          have ghc68 : Str t14 r14 hc68 := ghc67.only ps.1.1 (by decide)
          have hO := hO.trans (ps.1.1.mono (by decide))
          have hF := fun (j : Int) (j0 : 0 ≤ j) (a : j ≠ 16) (b : j ≠ 17) (c : j ≠ 18) => (ps.1.1.ga (by decide) j).trans (hF j j0 a b c)
          have h16 := (ps.1.1.ga (by decide) _).trans h16
          have nz := fun (i : Int) (i0 : 0 ≤ i) (i1 : i < k) => And.intro ((nz i i0 i1).1.keep (by decide) ps.1 (by omega) (nm1 (by omega))) ((nz i i0 i1).2.keep (by decide) ps.1 (by omega) (nm1 (by omega)))
          have nA := nA.keep (by decide) ps.1 (by omega) (nm1 (by omega))
          have nB := nv_small ps
          refine hd_iinc (z := 1) pkX14_solveAll rfl rfl (by omega) rfl ?_
          change MW _ _ _ _ _ [(1, (0, (k + 1))), (0, (2, ((2495 : Nat) : Int)))] _ _
          refine hd_goto pkX14_solveAll rfl ?_
          refine m_sub [(0, (2, ((2495 : Nat) : Int))), (1, (0, (k + 1)))] (List.forall_mem_cons.mpr ⟨rfl, List.forall_mem_cons.mpr ⟨rfl, fun _ h => absurd h List.not_mem_nil⟩⟩) ?_
          refine ih9  ((k + 1)) hc68 ghc68 ?_ ?_ ?_ ?_ ?_ ?_
          · exact hO
          · exact hF
          · exact h16
          · omega
          · intro i i0 i1
            by_cases q : i = k
            · rw [q]
              exact ⟨nA, nB⟩
            · exact nz i i0 (by omega)
          · omega
    refine m_sub [(0, (2, ((2495 : Nat) : Int))), (1, (0, 0))] (List.forall_mem_cons.mpr ⟨rfl, List.forall_mem_cons.mpr ⟨rfl, fun _ h => absurd h List.not_mem_nil⟩⟩) ?_
    refine lp9 (((336 : Int) - (0)) + 1).toNat (0) hh3 ghh3 ?_ ?_ ?_ ?_ ?_ ?_
    · exact hO
    · exact hF
    · exact h16
    · omega
    · intro i i0 i1
      omega
    · omega
  · skip
    refine hd_vret pkX14_solveAll rfl ?_
    subst eQ
    exact ⟨rfl, Only.refl _ _, fun _ _ _ _ _ => rfl, (fun _ => rfl), (by
      intro q
      have q2 : ga h 2495 ((16 : Nat) : Int) = 0 := q
      omega), hs1 (by
      intro q
      have q2 : ga h 2495 ((16 : Nat) : Int) = 0 := q
      omega)⟩
