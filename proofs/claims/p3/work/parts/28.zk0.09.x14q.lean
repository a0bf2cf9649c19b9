set_option maxRecDepth 20000 in
set_option maxHeartbeats 8000000 in
theorem h_X14_next {h : MH} {eq : Int} (he : ga h 2495 17 = eq) (h0 : 0 ≤ eq ∧ eq < 1000) (g : Str t14 r14 h) : MCal KX14_next yX14_next 0 0 [(2, ((2495 : Nat) : Int))] h (mRV fun h' => Only [2495] h h' ∧ ga h' 2495 17 = eq + 1 ∧ ∀ j : Int, 0 ≤ j → j ≠ 17 → ga h' 2495 j = ga h 2495 j) := by
  refine MCal.ofMW (Or.inl rfl) ⟨cp_X14, rfl⟩ (Nat.le_of_ble_eq_true rfl) ?_
  generalize eQ : (mRV fun h' => Only [2495] h h' ∧ ga h' 2495 17 = eq + 1 ∧ ∀ j : Int, 0 ≤ j → j ≠ 17 → ga h' 2495 j = ga h 2495 j : MO → MH → Prop) = Q
  change MW KX14_next Q 0 0 (pcA pgX14_next 0) [(0, (2, ((2495 : Nat) : Int)))] [] h
  refine hd_aload pkX14_next rfl rfl (Int.natCast_nonneg _) ?_
  refine hd_dup pkX14_next rfl rfl ?_
  refine hd_getI pkX14_next rfl (g.cell 0 rfl).1 (g.cell 0 rfl).2.1 (fun v1 ev1 rv1 => ?_)
  have qv1 : eq = v1 := by rw [ev1]; exact he.symm
  subst qv1
  refine hd_ipush (z := 1) pkX14_next rfl ?_
  refine hd_iadd pkX14_next rfl (by omega) ?_
  refine hd_putI pkX14_next rfl (g.cell 0 rfl).1 (g.cell 0 rfl).2.1 (fun hh2 ehh2 => ?_)
  have ghh2 : Str t14 r14 hh2 := by rw [ehh2]; exact g.setF rfl
  have hO : Only [2495] h hh2 := by rw [ehh2]; exact (Only.refl _ _).set List.mem_cons_self
  have w1 : ga hh2 2495 17 = eq + 1 := by
    rw [ehh2]
    exact (ga_sa _ _ _ (by decide) (by decide)).trans (if_pos rfl)
  have w2 : ∀ j : Int, 0 ≤ j → j ≠ 17 → ga hh2 2495 j = ga h 2495 j := fun j j0 j1 => by
    rw [ehh2]
    exact (ga_sa _ _ _ (by decide) j0).trans (if_neg j1)
  refine hd_vret pkX14_next rfl ?_
  subst eQ
  exact ⟨rfl, hO, w1, w2⟩
set_option maxRecDepth 20000 in
set_option maxHeartbeats 8000000 in
theorem h_X14_put {h : MH} {a k what x times : Int} {m : Nat} {A : Int → Int → Rat} (ha : 0 ≤ a) (ha2 : a < 12) (hk : 0 ≤ k) (hk2 : k < 3) (hl : 1 ≤ ga h 2498 k ∧ ga h 2498 k ≤ 12) (he : 1 ≤ ga h 2499 k ∧ ga h 2499 k ≤ 12) (hx : 0 ≤ x ∧ x ≤ 4) (hw : 0 ≤ what ∧ what ≤ 3) (ht : times = 1 ∨ times = -1) (tb0 : Tab 2496 2497 h A) (ba : ∀ j : Int, 0 ≤ j → j < 28 → SzQ m (A a j)) (hm : m ≤ 60) (g : Str t14 r14 h) : MCal KX14_put yX14_put 0 0 [(2, ((2495 : Nat) : Int)), (0, a), (0, k), (0, what), (0, x), (0, times)] h (mRV fun h' => Only [2496, 2497] h h' ∧ Tab 2496 2497 h' (adP (adP A a (fun j => tmQ times (coQ what x (ga h 2498 k) (ga h 2499 k) (j - 4 * k))) (4 * k) (4 * k + 4)) a (fun j => tmQ times (-(owQ what x (ga h 2498 k) (ga h 2499 k) (j - 12 - 5 * k)))) (13 + 5 * k) (16 + 5 * k))) := by
  refine MCal.ofMW (Or.inl rfl) ⟨cp_X14, rfl⟩ (Nat.le_of_ble_eq_true rfl) ?_
  generalize eQ : (mRV fun h' => Only [2496, 2497] h h' ∧ Tab 2496 2497 h' (adP (adP A a (fun j => tmQ times (coQ what x (ga h 2498 k) (ga h 2499 k) (j - 4 * k))) (4 * k) (4 * k + 4)) a (fun j => tmQ times (-(owQ what x (ga h 2498 k) (ga h 2499 k) (j - 12 - 5 * k)))) (13 + 5 * k) (16 + 5 * k)) : MO → MH → Prop) = Q
  change MW KX14_put Q 0 0 (pcA pgX14_put 0) [(0, (2, ((2495 : Nat) : Int))), (1, (0, a)), (2, (0, k)), (3, (0, what)), (4, (0, x)), (5, (0, times))] [] h
  refine hd_locI (i := 1) rfl (fun ra => ?_)
  refine hd_locI (i := 2) rfl (fun rk => ?_)
  refine hd_locI (i := 3) rfl (fun rwhat => ?_)
  refine hd_locI (i := 4) rfl (fun rx => ?_)
  refine hd_locI (i := 5) rfl (fun rtimes => ?_)
  refine hd_aload pkX14_put rfl rfl (Int.natCast_nonneg _) ?_
  refine hd_getR (n := 2498) pkX14_put rfl (g.cell 0 rfl).1 (g.cell 0 rfl).2.1 (g.ref 2 rfl) ?_
  refine hd_iload pkX14_put rfl rfl ?_
  refine hd_iald (n := 3) pkX14_put rfl (g.cell 3 rfl) (by omega) (by omega) (fun v1 ev1 rv1 => ?_)
  refine hd_i2l pkX14_put rfl ?_
  refine hd_lstore pkX14_put rfl rfl ?_
  change MW _ _ _ _ _ [(6, (1, v1)), (0, (2, ((2495 : Nat) : Int))), (1, (0, a)), (2, (0, k)), (3, (0, what)), (4, (0, x)), (5, (0, times))] _ _
  refine hd_aload pkX14_put rfl rfl (Int.natCast_nonneg _) ?_
  refine hd_getR (n := 2499) pkX14_put rfl (g.cell 0 rfl).1 (g.cell 0 rfl).2.1 (g.ref 3 rfl) ?_
  refine hd_iload pkX14_put rfl rfl ?_
  refine hd_iald (n := 3) pkX14_put rfl (g.cell 4 rfl) (by omega) (by omega) (fun v2 ev2 rv2 => ?_)
  refine hd_i2l pkX14_put rfl ?_
  refine hd_lstore pkX14_put rfl rfl ?_
  change MW _ _ _ _ _ [(8, (1, v2)), (6, (1, v1)), (0, (2, ((2495 : Nat) : Int))), (1, (0, a)), (2, (0, k)), (3, (0, what)), (4, (0, x)), (5, (0, times))] _ _
  refine hd_ipush (z := 0) pkX14_put rfl ?_
  refine hd_istore pkX14_put rfl rfl ?_
  change MW _ _ _ _ _ [(10, (0, 0)), (8, (1, v2)), (6, (1, v1)), (0, (2, ((2495 : Nat) : Int))), (1, (0, a)), (2, (0, k)), (3, (0, what)), (4, (0, x)), (5, (0, times))] _ _
  have lp14 : ∀ (N14 : Nat) (un : Int) (hl1 : MH), Str t14 r14 hl1 → (Only [2496, 2497] h hl1) → (0 ≤ un ∧ un ≤ 4) → (Tab 2496 2497 hl1 (adP A a (fun j => tmQ times (coQ what x (ga h 2498 k) (ga h 2499 k) (j - 4 * k))) (4 * k) (4 * k + un))) → (4 : Int) - un < (N14 : Int) → MW KX14_put Q 0 0 (pcA pgX14_put 14) [(0, (2, ((2495 : Nat) : Int))), (1, (0, a)), (2, (0, k)), (3, (0, what)), (4, (0, x)), (5, (0, times)), (6, (1, v1)), (8, (1, v2)), (10, (0, un))] [] hl1 := by
    intro N14
    induction N14 with
    | zero => intro un hl1 g14 hO c0 tb hm14; exfalso; omega
    | succ N14 ih14 =>
      intro un hl1 g14 hO c0 tb hm14
      refine hd_iload pkX14_put rfl rfl ?_
      refine hd_ipush (z := 4) pkX14_put rfl ?_
      refine hd_ic_ge pkX14_put rfl (fun c3 => ?_) (fun c3 => ?_)
      · skip
        refine hd_ipush (z := 1) pkX14_put rfl ?_
        refine hd_istore pkX14_put rfl rfl ?_
        change MW _ _ _ _ _ [(10, (0, 1)), (0, (2, ((2495 : Nat) : Int))), (1, (0, a)), (2, (0, k)), (3, (0, what)), (4, (0, x)), (5, (0, times)), (6, (1, v1)), (8, (1, v2))] _ _
        have lp65 : ∀ (N65 : Nat) (ld : Int) (hl2 : MH), Str t14 r14 hl2 → (Only [2496, 2497] h hl2) → (1 ≤ ld ∧ ld ≤ 4) → (Tab 2496 2497 hl2 (adP (adP A a (fun j => tmQ times (coQ what x (ga h 2498 k) (ga h 2499 k) (j - 4 * k))) (4 * k) (4 * k + 4)) a (fun j => tmQ times (-(owQ what x (ga h 2498 k) (ga h 2499 k) (j - 12 - 5 * k)))) (13 + 5 * k) (12 + 5 * k + ld))) → (4 : Int) - ld < (N65 : Int) → MW KX14_put Q 0 0 (pcA pgX14_put 65) [(0, (2, ((2495 : Nat) : Int))), (1, (0, a)), (2, (0, k)), (3, (0, what)), (4, (0, x)), (5, (0, times)), (6, (1, v1)), (8, (1, v2)), (10, (0, ld))] [] hl2 := by
          intro N65
          induction N65 with
          | zero => intro ld hl2 g65 hO c1 tb2 hm65; exfalso; omega
          | succ N65 ih65 =>
            intro ld hl2 g65 hO c1 tb2 hm65
            refine hd_iload pkX14_put rfl rfl ?_
            refine hd_ipush (z := 4) pkX14_put rfl ?_
            refine hd_ic_ge pkX14_put rfl (fun c4 => ?_) (fun c4 => ?_)
            · skip
              refine hd_vret pkX14_put rfl ?_
              subst eQ
              have u9 : 12 + 5 * k + ld = 16 + 5 * k := by omega
              rw [u9] at tb2
              exact ⟨rfl, hO, tb2⟩
            · skip
              refine hd_aload pkX14_put rfl rfl (Int.natCast_nonneg _) ?_
              refine hd_iload pkX14_put rfl rfl ?_
              refine hd_iload pkX14_put rfl rfl ?_
              refine hd_iload pkX14_put rfl rfl ?_
              refine hd_iload pkX14_put rfl rfl ?_
              have eL : ga hl2 2498 k = ga h 2498 k := hO.ga (by decide) _
              have eE : ga hl2 2499 k = ga h 2499 k := hO.ga (by decide) _
              refine hd_callV pkX14_put rfl (q := (KX14_own, yX14_own, 14, 4, 0)) rfl rfl rfl (As := [(0, k), (0, what), (0, x), (0, ld)]) (rest := []) (c := 2495) rfl rfl (Nat.le_of_ble_eq_true rfl) (g65.cell 0 rfl).1 (g65.cell 0 rfl).2.1 (h_X14_own hk hk2 (by rw [eL]; exact hl) (by rw [eE]; exact he) hx hw (by omega) g65) (hd_bV (fun hc5 pf => ?_))
              have ghc5 : Str t14 r14 hc5 := g65.only pf.1.1 (by decide)
              have hO := hO.trans pf.1.1
              have tb2 := tb2.keep pf.1 (by decide)
              have VU : Hr 70 2496 2497 hc5 677 678 (owQ what x (ga h 2498 k) (ga h 2499 k) ld) := by
                have q9 := pf.2
                rw [eL, eE] at q9
                exact q9
              refine hd_aload pkX14_put rfl rfl (Int.natCast_nonneg _) ?_
              refine hd_ipush (z := 677) pkX14_put rfl ?_
              refine hd_ipush (z := 681) pkX14_put rfl ?_
              obtain ⟨U1, U2, d0⟩ := VU
              refine hd_callV pkX14_put rfl (q := (KX14_copy, yX14_copy, 14, 2, 0)) rfl rfl rfl (As := [(0, 677), (0, 681)]) (rest := []) (c := 2495) rfl rfl (Nat.le_of_ble_eq_true rfl) (ghc5.cell 0 rfl).1 (ghc5.cell 0 rfl).2.1 (h_X14_copy (by decide) (by decide) (by decide) (by decide) U1.1 ghc5) (hd_bV (fun hc6 pc => ?_))
              have ghc6 : Str t14 r14 hc6 := ghc5.only pc.1.1 (by decide)
              have hO := hO.trans pc.1.1
              have tb2 := tb2.keep pc.1 (by decide)
              have U2 := U2.keep (by decide) pc.1 (by decide) (by decide)
              have VS := nv_copy U1 pc
              refine hd_aload pkX14_put rfl rfl (Int.natCast_nonneg _) ?_
              refine hd_ipush (z := 678) pkX14_put rfl ?_
              refine hd_ipush (z := 682) pkX14_put rfl ?_
              refine hd_callV pkX14_put rfl (q := (KX14_copy, yX14_copy, 14, 2, 0)) rfl rfl rfl (As := [(0, 678), (0, 682)]) (rest := []) (c := 2495) rfl rfl (Nat.le_of_ble_eq_true rfl) (ghc6.cell 0 rfl).1 (ghc6.cell 0 rfl).2.1 (h_X14_copy (by decide) (by decide) (by decide) (by decide) U2.1 ghc6) (hd_bV (fun hc7 pc => ?_))
              have ghc7 : Str t14 r14 hc7 := ghc6.only pc.1.1 (by decide)
              have hO := hO.trans pc.1.1
              have tb2 := tb2.keep pc.1 (by decide)
              have VS := VS.keep (by decide) pc.1 (by decide) (by decide)
              have VS : Hr 70 2496 2497 hc7 681 682 (owQ what x (ga h 2498 k) (ga h 2499 k) ld) := ⟨VS, nv_copy U2 pc, d0⟩
              refine hd_aload pkX14_put rfl rfl (Int.natCast_nonneg _) ?_
              refine hd_getR (n := 2497) pkX14_put rfl (ghc7.cell 0 rfl).1 (ghc7.cell 0 rfl).2.1 (ghc7.ref 1 rfl) ?_
              refine hd_ipush (z := 681) pkX14_put rfl ?_
              refine hd_aload pkX14_put rfl rfl (Int.natCast_nonneg _) ?_
              refine hd_getR (n := 2497) pkX14_put rfl (ghc7.cell 0 rfl).1 (ghc7.cell 0 rfl).2.1 (ghc7.ref 1 rfl) ?_
              refine hd_ipush (z := 681) pkX14_put rfl ?_
              refine hd_iald (n := 690) pkX14_put rfl (ghc7.cell 2 rfl) (by omega) (by omega) (fun v8 ev8 rv8 => ?_)
              have w55 : -1 ≤ v8 ∧ v8 ≤ 1 := by rw [ev8]; exact VS.1.sg
              have e55 := ev8.trans VS.1.2.2
              refine hd_ineg pkX14_put rfl (by omega) ?_
              refine hd_iload pkX14_put rfl rfl ?_
              refine hd_imul pkX14_put rfl (by rcases ht with w9 | w9 <;> rw [w9] <;> omega) ?_
              refine hd_iast (n := 690) pkX14_put rfl (ghc7.cell 2 rfl) (by decide) (by omega) (by omega) (fun hh9 ehh9 => ?_)
              have ghh9 : Str t14 r14 hh9 := by rw [ehh9]; exact ghc7.setA rfl
              have CW : Ch 70 2496 2497 [681] hc7 hh9 := by rw [ehh9]; exact (Ch.refl _ _ _ _ _).sgn (by decide) (by decide) inS
              have VS : Hr 70 2496 2497 hh9 681 682 (tmQ times (-(owQ what x (ga h 2498 k) (ga h 2499 k) ld))) := by
                rw [ehh9]
                exact VS.sg (by decide) (by decide) (by decide) (by decide) ((tm_parts _ _).1.trans (Int.natAbs_neg _)) (tm_parts _ _).2 (sg_tmn ht e55)
              have tb2 := tb2.keep CW (by decide)
              have hO := hO.trans CW.1
              refine hd_ipush (z := 12) pkX14_put rfl ?_
              refine hd_ipush (z := 5) pkX14_put rfl ?_
              refine hd_iload pkX14_put rfl rfl ?_
              refine hd_imul pkX14_put rfl (by omega) ?_
              refine hd_iadd pkX14_put rfl (by omega) ?_
              refine hd_iload pkX14_put rfl rfl ?_
              refine hd_iadd pkX14_put rfl (by omega) ?_
              refine hd_istore pkX14_put rfl rfl ?_
              change MW _ _ _ _ _ [(11, (0, ((12 + (5 * k)) + ld))), (0, (2, ((2495 : Nat) : Int))), (1, (0, a)), (2, (0, k)), (3, (0, what)), (4, (0, x)), (5, (0, times)), (6, (1, v1)), (8, (1, v2)), (10, (0, ld))] _ _
              refine hd_aload pkX14_put rfl rfl (Int.natCast_nonneg _) ?_
              refine hd_iload pkX14_put rfl rfl ?_
              refine hd_iload pkX14_put rfl rfl ?_
              refine hd_callS pkX14_put rfl (q := (KX14_cell, yX14_cell, 14, 2, 1)) rfl rfl rfl (As := [(0, a), (0, ((12 + (5 * k)) + ld))]) (rest := [(2, ((2495 : Nat) : Int))]) rfl rfl (Nat.le_of_ble_eq_true rfl) rfl (h_X14_cell ⟨by omega, by omega⟩ ⟨by omega, by omega⟩ ghh9) (hd_bI (fun w10 hc11 p12 => ?_))
              obtain ⟨p12, ehc11⟩ := p12
              replace ehc11 := ehc11.symm
              subst ehc11
              subst p12
              refine hd_ipush (z := 336) pkX14_put rfl ?_
              refine hd_iload pkX14_put rfl rfl ?_
              refine hd_iload pkX14_put rfl rfl ?_
              refine hd_callS pkX14_put rfl (q := (KX14_cell, yX14_cell, 14, 2, 1)) rfl rfl rfl (As := [(0, a), (0, ((12 + (5 * k)) + ld))]) (rest := [(0, 336), (0, (28 * a + ((12 + (5 * k)) + ld))), (2, ((2495 : Nat) : Int))]) rfl rfl (Nat.le_of_ble_eq_true rfl) rfl (h_X14_cell ⟨by omega, by omega⟩ ⟨by omega, by omega⟩ ghh9) (hd_bI (fun w13 hc14 p15 => ?_))
              obtain ⟨p15, ehc14⟩ := p15
              replace ehc14 := ehc14.symm
              subst ehc14
              subst p15
              refine hd_iadd pkX14_put rfl (by omega) ?_
              refine hd_ipush (z := 681) pkX14_put rfl ?_
              refine hd_ipush (z := 682) pkX14_put rfl ?_
              have P1 := (tb2 a (12 + 5 * k + ld) ha ha2 (by omega) (by omega)).r ((adP_o (Or.inr (Int.le_refl _))).trans (adP_o (Or.inr (by omega))))
              have bA := ba (12 + 5 * k + ld) (by omega) (by omega)
              have bD := SzQ.tm (t := times) (owQ_sz (w := what) (j := ld) hx ⟨by omega, by omega⟩ hl he).neg
              have e9 : 12 + 5 * k + ld - 12 - 5 * k = ld := by omega
              refine hd_callV pkX14_put rfl (q := (KX14_addFraction, yX14_addFraction, 14, 4, 0)) rfl rfl rfl (As := [(0, (28 * a + ((12 + (5 * k)) + ld))), (0, (336 + (28 * a + ((12 + (5 * k)) + ld)))), (0, 681), (0, 682)]) (rest := []) (c := 2495) rfl rfl (Nat.le_of_ble_eq_true rfl) (ghh9.cell 0 rfl).1 (ghh9.cell 0 rfl).2.1 (h_X14_addFraction (m1 := m) (m2 := 1) (by omega) (by omega) (by omega) (by omega) (by decide) (by decide) (by decide) (by decide) (by omega) (by simp only [List.mem_cons, List.not_mem_nil, or_false, not_or]; omega) (by simp only [List.mem_cons, List.not_mem_nil, or_false, not_or]; omega) (by decide) (by decide) P1 VS bA.1 bA.2 bD.1 bD.2 (by omega) ghh9) (hd_bV (fun hc16 pa => ?_))
              have ghc16 : Str t14 r14 hc16 := ghh9.only pa.1.1 (by decide)
              have hO := hO.trans pa.1.1
              have tbN := (tb2.set pa.1 (by decide) ha ha2 (by omega) (by omega) (pa.2.r (rat_add _ _))).ad (by show _ = adP A a _ _ _ a _ + tmQ times (-(owQ what x _ _ (12 + 5 * k + ld - 12 - 5 * k))); rw [e9, adP_o (Or.inr (show 4 * k + 4 ≤ 12 + 5 * k + ld by omega))]) (by omega) (show 12 + 5 * k + (ld + 1) = 12 + 5 * k + ld + 1 by omega)
              refine hd_iinc (z := 1) pkX14_put rfl rfl (by omega) rfl ?_
              change MW _ _ _ _ _ [(10, (0, (ld + 1))), (11, (0, ((12 + (5 * k)) + ld))), (0, (2, ((2495 : Nat) : Int))), (1, (0, a)), (2, (0, k)), (3, (0, what)), (4, (0, x)), (5, (0, times)), (6, (1, v1)), (8, (1, v2))] _ _
              refine hd_goto pkX14_put rfl ?_
              refine m_sub [(0, (2, ((2495 : Nat) : Int))), (1, (0, a)), (2, (0, k)), (3, (0, what)), (4, (0, x)), (5, (0, times)), (6, (1, v1)), (8, (1, v2)), (10, (0, (ld + 1)))] (List.forall_mem_cons.mpr ⟨rfl, List.forall_mem_cons.mpr ⟨rfl, List.forall_mem_cons.mpr ⟨rfl, List.forall_mem_cons.mpr ⟨rfl, List.forall_mem_cons.mpr ⟨rfl, List.forall_mem_cons.mpr ⟨rfl, List.forall_mem_cons.mpr ⟨rfl, List.forall_mem_cons.mpr ⟨rfl, List.forall_mem_cons.mpr ⟨rfl, fun _ h => absurd h List.not_mem_nil⟩⟩⟩⟩⟩⟩⟩⟩⟩) ?_
              refine ih65  ((ld + 1)) hc16 ghc16 ?_ ?_ ?_ ?_
              · exact hO
              · omega
              · exact tbN
              · omega
        have u9 : un = 4 := by omega
        rw [u9] at tb
        refine m_sub [(0, (2, ((2495 : Nat) : Int))), (1, (0, a)), (2, (0, k)), (3, (0, what)), (4, (0, x)), (5, (0, times)), (6, (1, v1)), (8, (1, v2)), (10, (0, 1))] (List.forall_mem_cons.mpr ⟨rfl, List.forall_mem_cons.mpr ⟨rfl, List.forall_mem_cons.mpr ⟨rfl, List.forall_mem_cons.mpr ⟨rfl, List.forall_mem_cons.mpr ⟨rfl, List.forall_mem_cons.mpr ⟨rfl, List.forall_mem_cons.mpr ⟨rfl, List.forall_mem_cons.mpr ⟨rfl, List.forall_mem_cons.mpr ⟨rfl, fun _ h => absurd h List.not_mem_nil⟩⟩⟩⟩⟩⟩⟩⟩⟩) ?_
        refine lp65 (((4 : Int) - (1)) + 1).toNat (1) hl1 g14 ?_ ?_ ?_ ?_
        · exact hO
        · omega
        · exact tb.ad0 (by omega)
        · omega
      · skip
        refine hd_aload pkX14_put rfl rfl (Int.natCast_nonneg _) ?_
        refine hd_iload pkX14_put rfl rfl ?_
        refine hd_iload pkX14_put rfl rfl ?_
        refine hd_iload pkX14_put rfl rfl ?_
        refine hd_iload pkX14_put rfl rfl ?_
        have eL : ga hl1 2498 k = ga h 2498 k := hO.ga (by decide) _
        have eE : ga hl1 2499 k = ga h 2499 k := hO.ga (by decide) _
        refine hd_callV pkX14_put rfl (q := (KX14_coefficient, yX14_coefficient, 14, 4, 0)) rfl rfl rfl (As := [(0, k), (0, what), (0, x), (0, un)]) (rest := []) (c := 2495) rfl rfl (Nat.le_of_ble_eq_true rfl) (g14.cell 0 rfl).1 (g14.cell 0 rfl).2.1 (h_X14_coefficient hk hk2 (by rw [eL]; exact hl) (by rw [eE]; exact he) hx hw (by omega) g14) (hd_bV (fun hc17 pf => ?_))
        have ghc17 : Str t14 r14 hc17 := g14.only pf.1.1 (by decide)
        have hO := hO.trans pf.1.1
        have tb := tb.keep pf.1 (by decide)
        have VU : Hr 70 2496 2497 hc17 677 678 (coQ what x (ga h 2498 k) (ga h 2499 k) un) := by
          have q9 := pf.2
          rw [eL, eE] at q9
          exact q9
        refine hd_aload pkX14_put rfl rfl (Int.natCast_nonneg _) ?_
        refine hd_ipush (z := 677) pkX14_put rfl ?_
        refine hd_ipush (z := 681) pkX14_put rfl ?_
        obtain ⟨U1, U2, d0⟩ := VU
        refine hd_callV pkX14_put rfl (q := (KX14_copy, yX14_copy, 14, 2, 0)) rfl rfl rfl (As := [(0, 677), (0, 681)]) (rest := []) (c := 2495) rfl rfl (Nat.le_of_ble_eq_true rfl) (ghc17.cell 0 rfl).1 (ghc17.cell 0 rfl).2.1 (h_X14_copy (by decide) (by decide) (by decide) (by decide) U1.1 ghc17) (hd_bV (fun hc18 pc => ?_))
        have ghc18 : Str t14 r14 hc18 := ghc17.only pc.1.1 (by decide)
        have hO := hO.trans pc.1.1
        have tb := tb.keep pc.1 (by decide)
        have U2 := U2.keep (by decide) pc.1 (by decide) (by decide)
        have VS := nv_copy U1 pc
        refine hd_aload pkX14_put rfl rfl (Int.natCast_nonneg _) ?_
        refine hd_ipush (z := 678) pkX14_put rfl ?_
        refine hd_ipush (z := 682) pkX14_put rfl ?_
        refine hd_callV pkX14_put rfl (q := (KX14_copy, yX14_copy, 14, 2, 0)) rfl rfl rfl (As := [(0, 678), (0, 682)]) (rest := []) (c := 2495) rfl rfl (Nat.le_of_ble_eq_true rfl) (ghc18.cell 0 rfl).1 (ghc18.cell 0 rfl).2.1 (h_X14_copy (by decide) (by decide) (by decide) (by decide) U2.1 ghc18) (hd_bV (fun hc19 pc => ?_))
        have ghc19 : Str t14 r14 hc19 := ghc18.only pc.1.1 (by decide)
        have hO := hO.trans pc.1.1
        have tb := tb.keep pc.1 (by decide)
        have VS := VS.keep (by decide) pc.1 (by decide) (by decide)
        have VS : Hr 70 2496 2497 hc19 681 682 (coQ what x (ga h 2498 k) (ga h 2499 k) un) := ⟨VS, nv_copy U2 pc, d0⟩
        refine hd_aload pkX14_put rfl rfl (Int.natCast_nonneg _) ?_
        refine hd_getR (n := 2497) pkX14_put rfl (ghc19.cell 0 rfl).1 (ghc19.cell 0 rfl).2.1 (ghc19.ref 1 rfl) ?_
        refine hd_ipush (z := 681) pkX14_put rfl ?_
        refine hd_aload pkX14_put rfl rfl (Int.natCast_nonneg _) ?_
        refine hd_getR (n := 2497) pkX14_put rfl (ghc19.cell 0 rfl).1 (ghc19.cell 0 rfl).2.1 (ghc19.ref 1 rfl) ?_
        refine hd_ipush (z := 681) pkX14_put rfl ?_
        refine hd_iald (n := 690) pkX14_put rfl (ghc19.cell 2 rfl) (by omega) (by omega) (fun v20 ev20 rv20 => ?_)
        have w55 : -1 ≤ v20 ∧ v20 ≤ 1 := by rw [ev20]; exact VS.1.sg
        have e55 := ev20.trans VS.1.2.2
        refine hd_iload pkX14_put rfl rfl ?_
        refine hd_imul pkX14_put rfl (by rcases ht with w9 | w9 <;> rw [w9] <;> omega) ?_
        refine hd_iast (n := 690) pkX14_put rfl (ghc19.cell 2 rfl) (by decide) (by omega) (by omega) (fun hh21 ehh21 => ?_)
        have ghh21 : Str t14 r14 hh21 := by rw [ehh21]; exact ghc19.setA rfl
        have CW : Ch 70 2496 2497 [681] hc19 hh21 := by rw [ehh21]; exact (Ch.refl _ _ _ _ _).sgn (by decide) (by decide) inS
        have VS : Hr 70 2496 2497 hh21 681 682 (tmQ times (coQ what x (ga h 2498 k) (ga h 2499 k) un)) := by
          rw [ehh21]
          exact VS.sg (by decide) (by decide) (by decide) (by decide) (tm_parts _ _).1 (tm_parts _ _).2 (sg_tm ht e55)
        have tb := tb.keep CW (by decide)
        have hO := hO.trans CW.1
        refine hd_aload pkX14_put rfl rfl (Int.natCast_nonneg _) ?_
        refine hd_iload pkX14_put rfl rfl ?_
        refine hd_ipush (z := 4) pkX14_put rfl ?_
        refine hd_iload pkX14_put rfl rfl ?_
        refine hd_imul pkX14_put rfl (by omega) ?_
        refine hd_iload pkX14_put rfl rfl ?_
        refine hd_iadd pkX14_put rfl (by omega) ?_
        refine hd_callS pkX14_put rfl (q := (KX14_cell, yX14_cell, 14, 2, 1)) rfl rfl rfl (As := [(0, a), (0, ((4 * k) + un))]) (rest := [(2, ((2495 : Nat) : Int))]) rfl rfl (Nat.le_of_ble_eq_true rfl) rfl (h_X14_cell ⟨by omega, by omega⟩ ⟨by omega, by omega⟩ ghh21) (hd_bI (fun w22 hc23 p24 => ?_))
        obtain ⟨p24, ehc23⟩ := p24
        replace ehc23 := ehc23.symm
        subst ehc23
        subst p24
        refine hd_ipush (z := 336) pkX14_put rfl ?_
        refine hd_iload pkX14_put rfl rfl ?_
        refine hd_ipush (z := 4) pkX14_put rfl ?_
        refine hd_iload pkX14_put rfl rfl ?_
        refine hd_imul pkX14_put rfl (by omega) ?_
        refine hd_iload pkX14_put rfl rfl ?_
        refine hd_iadd pkX14_put rfl (by omega) ?_
        refine hd_callS pkX14_put rfl (q := (KX14_cell, yX14_cell, 14, 2, 1)) rfl rfl rfl (As := [(0, a), (0, ((4 * k) + un))]) (rest := [(0, 336), (0, (28 * a + ((4 * k) + un))), (2, ((2495 : Nat) : Int))]) rfl rfl (Nat.le_of_ble_eq_true rfl) rfl (h_X14_cell ⟨by omega, by omega⟩ ⟨by omega, by omega⟩ ghh21) (hd_bI (fun w25 hc26 p27 => ?_))
        obtain ⟨p27, ehc26⟩ := p27
        replace ehc26 := ehc26.symm
        subst ehc26
        subst p27
        refine hd_iadd pkX14_put rfl (by omega) ?_
        refine hd_ipush (z := 681) pkX14_put rfl ?_
        refine hd_ipush (z := 682) pkX14_put rfl ?_
        have P1 := (tb a (4 * k + un) ha ha2 (by omega) (by omega)).r (adP_o (Or.inr (Int.le_refl _)))
        have bA := ba (4 * k + un) (by omega) (by omega)
        have bD := SzQ.tm (t := times) (coQ_sz (w := what) (j := un) hx hl he)
        have e9 : 4 * k + un - 4 * k = un := by omega
        refine hd_callV pkX14_put rfl (q := (KX14_addFraction, yX14_addFraction, 14, 4, 0)) rfl rfl rfl (As := [(0, (28 * a + ((4 * k) + un))), (0, (336 + (28 * a + ((4 * k) + un)))), (0, 681), (0, 682)]) (rest := []) (c := 2495) rfl rfl (Nat.le_of_ble_eq_true rfl) (ghh21.cell 0 rfl).1 (ghh21.cell 0 rfl).2.1 (h_X14_addFraction (m1 := m) (m2 := 1) (by omega) (by omega) (by omega) (by omega) (by decide) (by decide) (by decide) (by decide) (by omega) (by simp only [List.mem_cons, List.not_mem_nil, or_false, not_or]; omega) (by simp only [List.mem_cons, List.not_mem_nil, or_false, not_or]; omega) (by decide) (by decide) P1 VS bA.1 bA.2 bD.1 bD.2 (by omega) ghh21) (hd_bV (fun hc28 pa => ?_))
        have ghc28 : Str t14 r14 hc28 := ghh21.only pa.1.1 (by decide)
        have hO := hO.trans pa.1.1
        have tbN := (tb.set pa.1 (by decide) ha ha2 (by omega) (by omega) (pa.2.r (rat_add _ _))).ad (by show _ = A a _ + tmQ times (coQ what x _ _ (4 * k + un - 4 * k)); rw [e9]) (by omega) (show 4 * k + (un + 1) = 4 * k + un + 1 by omega)
        refine hd_iinc (z := 1) pkX14_put rfl rfl (by omega) rfl ?_
        change MW _ _ _ _ _ [(10, (0, (un + 1))), (0, (2, ((2495 : Nat) : Int))), (1, (0, a)), (2, (0, k)), (3, (0, what)), (4, (0, x)), (5, (0, times)), (6, (1, v1)), (8, (1, v2))] _ _
        refine hd_goto pkX14_put rfl ?_
        refine m_sub [(0, (2, ((2495 : Nat) : Int))), (1, (0, a)), (2, (0, k)), (3, (0, what)), (4, (0, x)), (5, (0, times)), (6, (1, v1)), (8, (1, v2)), (10, (0, (un + 1)))] (List.forall_mem_cons.mpr ⟨rfl, List.forall_mem_cons.mpr ⟨rfl, List.forall_mem_cons.mpr ⟨rfl, List.forall_mem_cons.mpr ⟨rfl, List.forall_mem_cons.mpr ⟨rfl, List.forall_mem_cons.mpr ⟨rfl, List.forall_mem_cons.mpr ⟨rfl, List.forall_mem_cons.mpr ⟨rfl, List.forall_mem_cons.mpr ⟨rfl, fun _ h => absurd h List.not_mem_nil⟩⟩⟩⟩⟩⟩⟩⟩⟩) ?_
        refine ih14  ((un + 1)) hc28 ghc28 ?_ ?_ ?_ ?_
        · exact hO
        · omega
        · exact tbN
        · omega
  refine m_sub [(0, (2, ((2495 : Nat) : Int))), (1, (0, a)), (2, (0, k)), (3, (0, what)), (4, (0, x)), (5, (0, times)), (6, (1, v1)), (8, (1, v2)), (10, (0, 0))] (List.forall_mem_cons.mpr ⟨rfl, List.forall_mem_cons.mpr ⟨rfl, List.forall_mem_cons.mpr ⟨rfl, List.forall_mem_cons.mpr ⟨rfl, List.forall_mem_cons.mpr ⟨rfl, List.forall_mem_cons.mpr ⟨rfl, List.forall_mem_cons.mpr ⟨rfl, List.forall_mem_cons.mpr ⟨rfl, List.forall_mem_cons.mpr ⟨rfl, fun _ h => absurd h List.not_mem_nil⟩⟩⟩⟩⟩⟩⟩⟩⟩) ?_
  refine lp14 (((4 : Int) - (0)) + 1).toNat (0) h g ?_ ?_ ?_ ?_
  · exact Only.refl _ _
  · omega
  · exact tb0.ad0 (by omega)
  · omega
