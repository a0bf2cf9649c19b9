set_option maxRecDepth 20000 in
set_option maxHeartbeats 8000000 in
theorem h_X14_has {h : MH} {k what x col times : Int} {m m2 : Nat} {T : Int → Int → Rat} {S : Rat} (hk : 0 ≤ k) (hk2 : k < 3) (hl : 1 ≤ ga h 2498 k ∧ ga h 2498 k ≤ 12) (he : 1 ≤ ga h 2499 k ∧ ga h 2499 k ≤ 12) (hx : 0 ≤ x ∧ x ≤ 4) (hw : 0 ≤ what ∧ what ≤ 3) (hc : 12 ≤ col ∧ col < 28) (ht : times = 1 ∨ times = -1) (tb0 : Tab 2496 2497 h T) (VS0 : Hr 70 2496 2497 h 681 682 S) (htl : ∀ u : Int, 0 ≤ u → u < 4 → 0 ≤ ga h 2508 (4 * k + u) ∧ ga h 2508 (4 * k + u) < 12) (zT : ∀ u : Int, 0 ≤ u → u < 4 → SzQ m2 (T (ga h 2508 (4 * k + u)) col)) (zS : ∀ n : Nat, n ≤ 4 → (n = 4 → col ≠ 27) → SzQ m (S + sumN n (hsF T (ga h 2508) k what x times (ga h 2498 k) (ga h 2499 k) col))) (hm : m + m2 < 60) (g : Str t14 r14 h) : MCal KX14_has yX14_has 0 0 [(2, ((2495 : Nat) : Int)), (0, k), (0, what), (0, x), (0, col), (0, times)] h (mRV fun h' => Ch 70 2496 2497 [677, 678, 681, 682, 672, 673, 674, 675, 676] h h' ∧ Tab 2496 2497 h' T ∧ Hr 70 2496 2497 h' 681 682 (S + sumN 4 (hsF T (ga h 2508) k what x times (ga h 2498 k) (ga h 2499 k) col) + hsO k what x times (ga h 2498 k) (ga h 2499 k) col)) := by
  refine MCal.ofMW (Or.inl rfl) ⟨cp_X14, rfl⟩ (Nat.le_of_ble_eq_true rfl) ?_
  generalize eQ : (mRV fun h' => Ch 70 2496 2497 [677, 678, 681, 682, 672, 673, 674, 675, 676] h h' ∧ Tab 2496 2497 h' T ∧ Hr 70 2496 2497 h' 681 682 (S + sumN 4 (hsF T (ga h 2508) k what x times (ga h 2498 k) (ga h 2499 k) col) + hsO k what x times (ga h 2498 k) (ga h 2499 k) col) : MO → MH → Prop) = Q
  change MW KX14_has Q 0 0 (pcA pgX14_has 0) [(0, (2, ((2495 : Nat) : Int))), (1, (0, k)), (2, (0, what)), (3, (0, x)), (4, (0, col)), (5, (0, times))] [] h
  refine hd_locI (i := 1) rfl (fun rk => ?_)
  refine hd_locI (i := 2) rfl (fun rwhat => ?_)
  refine hd_locI (i := 3) rfl (fun rx => ?_)
  refine hd_locI (i := 4) rfl (fun rcol => ?_)
  refine hd_locI (i := 5) rfl (fun rtimes => ?_)
  refine hd_ipush (z := 0) pkX14_has rfl ?_
  refine hd_istore pkX14_has rfl rfl ?_
  change MW _ _ _ _ _ [(6, (0, 0)), (0, (2, ((2495 : Nat) : Int))), (1, (0, k)), (2, (0, what)), (3, (0, x)), (4, (0, col)), (5, (0, times))] _ _
  have lp2 : ∀ (N2 : Nat) (u : Int) (hl9 : MH), Str t14 r14 hl9 → (Ch 70 2496 2497 [677, 678, 681, 682, 672, 673, 674, 675, 676] h hl9) → (0 ≤ u ∧ u ≤ 4) → (Tab 2496 2497 hl9 T) → (Hr 70 2496 2497 hl9 681 682 (S + sumN u.toNat (hsF T (ga h 2508) k what x times (ga h 2498 k) (ga h 2499 k) col))) → (4 : Int) - u < (N2 : Int) → MW KX14_has Q 0 0 (pcA pgX14_has 2) [(0, (2, ((2495 : Nat) : Int))), (1, (0, k)), (2, (0, what)), (3, (0, x)), (4, (0, col)), (5, (0, times)), (6, (0, u))] [] hl9 := by
    intro N2
    induction N2 with
    | zero => intro u hl9 g2 hC u0 tb VS hm2; exfalso; omega
    | succ N2 ih2 =>
      intro u hl9 g2 hC u0 tb VS hm2
      have hO := hC.1
      refine hd_iload pkX14_has rfl rfl ?_
      refine hd_ipush (z := 4) pkX14_has rfl ?_
      refine hd_ic_ge pkX14_has rfl (fun c1 => ?_) (fun c1 => ?_)
      · skip
        refine hd_iload pkX14_has rfl rfl ?_
        refine hd_ipush (z := 12) pkX14_has rfl ?_
        refine hd_isub pkX14_has rfl (by omega) ?_
        refine hd_ipush (z := 5) pkX14_has rfl ?_
        refine hd_iload pkX14_has rfl rfl ?_
        refine hd_imul pkX14_has rfl (by omega) ?_
        refine hd_isub pkX14_has rfl (by omega) ?_
        refine hd_istore pkX14_has rfl rfl ?_
        change MW _ _ _ _ _ [(6, (0, ((col - 12) - (5 * k)))), (0, (2, ((2495 : Nat) : Int))), (1, (0, k)), (2, (0, what)), (3, (0, x)), (4, (0, col)), (5, (0, times))] _ _
        refine hd_iload pkX14_has rfl rfl ?_
        refine hd_ipush (z := 27) pkX14_has rfl ?_
        refine hd_ic_eq pkX14_has rfl (fun c2 => ?_) (fun c2 => ?_)
        · skip
          refine hd_vret pkX14_has rfl ?_
          subst eQ
          have u4 : u.toNat = 4 := by omega
          rw [u4] at VS
          have o : hsO k what x times (ga h 2498 k) (ga h 2499 k) col = 0 := if_neg (by omega)
          exact ⟨rfl, hC, tb, VS.r (by rw [o, Rat.add_zero])⟩
        · skip
          refine hd_iload pkX14_has rfl rfl ?_
          refine hd_if_le pkX14_has rfl (fun c3 => ?_) (fun c3 => ?_)
          · skip
            refine hd_vret pkX14_has rfl ?_
            subst eQ
            have u4 : u.toNat = 4 := by omega
            rw [u4] at VS
            have o : hsO k what x times (ga h 2498 k) (ga h 2499 k) col = 0 := if_neg (by omega)
            exact ⟨rfl, hC, tb, VS.r (by rw [o, Rat.add_zero])⟩
          · skip
            refine hd_iload pkX14_has rfl rfl ?_
            refine hd_ipush (z := 4) pkX14_has rfl ?_
            refine hd_ic_ge pkX14_has rfl (fun c4 => ?_) (fun c4 => ?_)
            · skip
              refine hd_vret pkX14_has rfl ?_
              subst eQ
              have u4 : u.toNat = 4 := by omega
              rw [u4] at VS
              have o : hsO k what x times (ga h 2498 k) (ga h 2499 k) col = 0 := if_neg (by omega)
              exact ⟨rfl, hC, tb, VS.r (by rw [o, Rat.add_zero])⟩
            · skip
              refine hd_aload pkX14_has rfl rfl (Int.natCast_nonneg _) ?_
              refine hd_iload pkX14_has rfl rfl ?_
              refine hd_iload pkX14_has rfl rfl ?_
              refine hd_iload pkX14_has rfl rfl ?_
              refine hd_iload pkX14_has rfl rfl ?_
              have eL : ga hl9 2498 k = ga h 2498 k := hO.ga (by decide) _
              have eE : ga hl9 2499 k = ga h 2499 k := hO.ga (by decide) _
              refine hd_callV pkX14_has rfl (q := (KX14_own, yX14_own, 14, 4, 0)) rfl rfl rfl (As := [(0, k), (0, what), (0, x), (0, ((col - 12) - (5 * k)))]) (rest := []) (c := 2495) rfl rfl (Nat.le_of_ble_eq_true rfl) (g2.cell 0 rfl).1 (g2.cell 0 rfl).2.1 (h_X14_own hk hk2 (by rw [eL]; exact hl) (by rw [eE]; exact he) hx hw (by omega) g2) (hd_bV (fun hc5 pf => ?_))
              have ghc5 : Str t14 r14 hc5 := g2.only pf.1.1 (by decide)
              have hC := hC.trans (pf.1.mono (by decide))
              have hO := hC.1
              have tb := tb.keep pf.1 (by decide)
              have VS := VS.keep (by decide) pf.1 (by decide) (by decide) (by decide) (by decide)
              have VU : Hr 70 2496 2497 hc5 677 678 (owQ what x (ga h 2498 k) (ga h 2499 k) (col - 12 - 5 * k)) := by
                have q9 := pf.2
                rw [eL, eE] at q9
                exact q9
              refine hd_aload pkX14_has rfl rfl (Int.natCast_nonneg _) ?_
              refine hd_getR (n := 2497) pkX14_has rfl (ghc5.cell 0 rfl).1 (ghc5.cell 0 rfl).2.1 (ghc5.ref 1 rfl) ?_
              refine hd_ipush (z := 677) pkX14_has rfl ?_
              refine hd_aload pkX14_has rfl rfl (Int.natCast_nonneg _) ?_
              refine hd_getR (n := 2497) pkX14_has rfl (ghc5.cell 0 rfl).1 (ghc5.cell 0 rfl).2.1 (ghc5.ref 1 rfl) ?_
              refine hd_ipush (z := 677) pkX14_has rfl ?_
              refine hd_iald (n := 690) pkX14_has rfl (ghc5.cell 2 rfl) (by omega) (by omega) (fun v6 ev6 rv6 => ?_)
              have w55 : -1 ≤ v6 ∧ v6 ≤ 1 := by rw [ev6]; exact VU.1.sg
              have e55 := ev6.trans VU.1.2.2
              refine hd_iload pkX14_has rfl rfl ?_
              refine hd_imul pkX14_has rfl (by rcases ht with w9 | w9 <;> rw [w9] <;> omega) ?_
              refine hd_iast (n := 690) pkX14_has rfl (ghc5.cell 2 rfl) (by decide) (by omega) (by omega) (fun hh7 ehh7 => ?_)
              have ghh7 : Str t14 r14 hh7 := by rw [ehh7]; exact ghc5.setA rfl
              have CW : Ch 70 2496 2497 [677] hc5 hh7 := by rw [ehh7]; exact (Ch.refl _ _ _ _ _).sgn (by decide) (by decide) inS
              have VU : Hr 70 2496 2497 hh7 677 678 (tmQ times (owQ what x (ga h 2498 k) (ga h 2499 k) (col - 12 - 5 * k))) := by
                rw [ehh7]
                exact VU.sg (by decide) (by decide) (by decide) (by decide) (tm_parts _ _).1 (tm_parts _ _).2 (sg_tm ht e55)
              have tb := tb.keep CW (by decide)
              have hC := hC.trans (CW.mono (by decide))
              have hO := hC.1
              have VS := VS.keep (by decide) CW (by decide) (by decide) (by decide) (by decide)
              refine hd_aload pkX14_has rfl rfl (Int.natCast_nonneg _) ?_
              refine hd_ipush (z := 681) pkX14_has rfl ?_
              refine hd_ipush (z := 682) pkX14_has rfl ?_
              refine hd_ipush (z := 677) pkX14_has rfl ?_
              refine hd_ipush (z := 678) pkX14_has rfl ?_
              have u4 : u.toNat = 4 := by omega
              have bS := zS u.toNat (by omega) (fun q => by omega)
              have bU := SzQ.tm (t := times) (owQ_sz (w := what) (j := col - 12 - 5 * k) hx ⟨by omega, by omega⟩ hl he)
              refine hd_callV pkX14_has rfl (q := (KX14_addFraction, yX14_addFraction, 14, 4, 0)) rfl rfl rfl (As := [(0, 681), (0, 682), (0, 677), (0, 678)]) (rest := []) (c := 2495) rfl rfl (Nat.le_of_ble_eq_true rfl) (ghh7.cell 0 rfl).1 (ghh7.cell 0 rfl).2.1 (h_X14_addFraction (m1 := m) (m2 := 1) (by decide) (by decide) (by decide) (by decide) (by decide) (by decide) (by decide) (by decide) (by decide) (by decide) (by decide) (by decide) (by decide) VS VU bS.1 bS.2 bU.1 bU.2 (by omega) ghh7) (hd_bV (fun hc8 pa => ?_))
              have ghc8 : Str t14 r14 hc8 := ghh7.only pa.1.1 (by decide)
              have hC := hC.trans (pa.1.mono (by decide))
              have hO := hC.1
              have tb := tb.keep pa.1 (by decide)
              have VS := pa.2.r (rat_add _ _)
              refine hd_vret pkX14_has rfl ?_
              subst eQ
              rw [u4] at VS
              have o : hsO k what x times (ga h 2498 k) (ga h 2499 k) col = tmQ times (owQ what x (ga h 2498 k) (ga h 2499 k) (col - 12 - 5 * k)) := if_pos ⟨by omega, by omega, by omega⟩
              exact ⟨rfl, hC, tb, VS.r (by rw [o])⟩
      · skip
        refine hd_aload pkX14_has rfl rfl (Int.natCast_nonneg _) ?_
        refine hd_iload pkX14_has rfl rfl ?_
        refine hd_iload pkX14_has rfl rfl ?_
        refine hd_iload pkX14_has rfl rfl ?_
        refine hd_iload pkX14_has rfl rfl ?_
        have eL : ga hl9 2498 k = ga h 2498 k := hO.ga (by decide) _
        have eE : ga hl9 2499 k = ga h 2499 k := hO.ga (by decide) _
        refine hd_callV pkX14_has rfl (q := (KX14_coefficient, yX14_coefficient, 14, 4, 0)) rfl rfl rfl (As := [(0, k), (0, what), (0, x), (0, u)]) (rest := []) (c := 2495) rfl rfl (Nat.le_of_ble_eq_true rfl) (g2.cell 0 rfl).1 (g2.cell 0 rfl).2.1 (h_X14_coefficient hk hk2 (by rw [eL]; exact hl) (by rw [eE]; exact he) hx hw (by omega) g2) (hd_bV (fun hc9 pf => ?_))
        have ghc9 : Str t14 r14 hc9 := g2.only pf.1.1 (by decide)
        have hC := hC.trans (pf.1.mono (by decide))
        have hO := hC.1
        have tb := tb.keep pf.1 (by decide)
        have VS := VS.keep (by decide) pf.1 (by decide) (by decide) (by decide) (by decide)
        have VU : Hr 70 2496 2497 hc9 677 678 (coQ what x (ga h 2498 k) (ga h 2499 k) u) := by
          have q9 := pf.2
          rw [eL, eE] at q9
          exact q9
        refine hd_aload pkX14_has rfl rfl (Int.natCast_nonneg _) ?_
        refine hd_getR (n := 2508) pkX14_has rfl (ghc9.cell 0 rfl).1 (ghc9.cell 0 rfl).2.1 (ghc9.ref 12 rfl) ?_
        refine hd_ipush (z := 4) pkX14_has rfl ?_
        refine hd_iload pkX14_has rfl rfl ?_
        refine hd_imul pkX14_has rfl (by omega) ?_
        refine hd_iload pkX14_has rfl rfl ?_
        refine hd_iadd pkX14_has rfl (by omega) ?_
        refine hd_iald (n := 12) pkX14_has rfl (ghc9.cell 13 rfl) (by omega) (by omega) (fun v10 ev10 rv10 => ?_)
        have qv10 : (ga h 2508 (4 * k + u)) = v10 := by rw [ev10]; exact (hO.ga (by decide) _).symm
        have ht9 := htl u (by omega) (by omega)
        subst qv10
        refine hd_istore pkX14_has rfl rfl ?_
        change MW _ _ _ _ _ [(7, (0, (ga h 2508 (4 * k + u)))), (0, (2, ((2495 : Nat) : Int))), (1, (0, k)), (2, (0, what)), (3, (0, x)), (4, (0, col)), (5, (0, times)), (6, (0, u))] _ _
        refine hd_aload pkX14_has rfl rfl (Int.natCast_nonneg _) ?_
        refine hd_ipush (z := 677) pkX14_has rfl ?_
        refine hd_ipush (z := 678) pkX14_has rfl ?_
        refine hd_iload pkX14_has rfl rfl ?_
        refine hd_iload pkX14_has rfl rfl ?_
        refine hd_callS pkX14_has rfl (q := (KX14_cell, yX14_cell, 14, 2, 1)) rfl rfl rfl (As := [(0, (ga h 2508 (4 * k + u))), (0, col)]) (rest := [(0, 678), (0, 677), (2, ((2495 : Nat) : Int))]) rfl rfl (Nat.le_of_ble_eq_true rfl) rfl (h_X14_cell ⟨by omega, by omega⟩ ⟨by omega, by omega⟩ ghc9) (hd_bI (fun w11 hc12 p13 => ?_))
        obtain ⟨p13, ehc12⟩ := p13
        replace ehc12 := ehc12.symm
        subst ehc12
        subst p13
        refine hd_ipush (z := 336) pkX14_has rfl ?_
        refine hd_iload pkX14_has rfl rfl ?_
        refine hd_iload pkX14_has rfl rfl ?_
        refine hd_callS pkX14_has rfl (q := (KX14_cell, yX14_cell, 14, 2, 1)) rfl rfl rfl (As := [(0, (ga h 2508 (4 * k + u))), (0, col)]) (rest := [(0, 336), (0, (28 * (ga h 2508 (4 * k + u)) + col)), (0, 678), (0, 677), (2, ((2495 : Nat) : Int))]) rfl rfl (Nat.le_of_ble_eq_true rfl) rfl (h_X14_cell ⟨by omega, by omega⟩ ⟨by omega, by omega⟩ ghc9) (hd_bI (fun w14 hc15 p16 => ?_))
        obtain ⟨p16, ehc15⟩ := p16
        replace ehc15 := ehc15.symm
        subst ehc15
        subst p16
        refine hd_iadd pkX14_has rfl (by omega) ?_
        have PT := tb (ga h 2508 (4 * k + u)) col ht9.1 ht9.2 (by omega) (by omega)
        have bT := zT u (by omega) (by omega)
        have bC := coQ_sz (w := what) (j := u) hx hl he
        refine hd_callV pkX14_has rfl (q := (KX14_timesFraction, yX14_timesFraction, 14, 4, 0)) rfl rfl rfl (As := [(0, 677), (0, 678), (0, (28 * (ga h 2508 (4 * k + u)) + col)), (0, (336 + (28 * (ga h 2508 (4 * k + u)) + col)))]) (rest := []) (c := 2495) rfl rfl (Nat.le_of_ble_eq_true rfl) (ghc9.cell 0 rfl).1 (ghc9.cell 0 rfl).2.1 (h_X14_timesFraction (m1 := 1) (m2 := m2) (by decide) (by decide) (by decide) (by decide) (by omega) (by omega) (by omega) (by omega) (by decide) (by decide) (by decide) (by simp only [List.mem_cons, List.not_mem_nil, or_false, not_or]; omega) (by simp only [List.mem_cons, List.not_mem_nil, or_false, not_or]; omega) VU PT bC.1 bC.2 bT.1 bT.2 (by omega) ghc9) (hd_bV (fun hc17 pt => ?_))
        have ghc17 : Str t14 r14 hc17 := ghc9.only pt.1.1 (by decide)
        have hC := hC.trans (pt.1.mono (by decide))
        have hO := hC.1
        have tb := tb.keep pt.1 (by decide)
        have VS := VS.keep (by decide) pt.1 (by decide) (by decide) (by decide) (by decide)
        have VU := pt.2.r (rat_mul _ _)
        refine hd_aload pkX14_has rfl rfl (Int.natCast_nonneg _) ?_
        refine hd_getR (n := 2497) pkX14_has rfl (ghc17.cell 0 rfl).1 (ghc17.cell 0 rfl).2.1 (ghc17.ref 1 rfl) ?_
        refine hd_ipush (z := 677) pkX14_has rfl ?_
        refine hd_aload pkX14_has rfl rfl (Int.natCast_nonneg _) ?_
        refine hd_getR (n := 2497) pkX14_has rfl (ghc17.cell 0 rfl).1 (ghc17.cell 0 rfl).2.1 (ghc17.ref 1 rfl) ?_
        refine hd_ipush (z := 677) pkX14_has rfl ?_
        refine hd_iald (n := 690) pkX14_has rfl (ghc17.cell 2 rfl) (by omega) (by omega) (fun v18 ev18 rv18 => ?_)
        have w55 : -1 ≤ v18 ∧ v18 ≤ 1 := by rw [ev18]; exact VU.1.sg
        have e55 := ev18.trans VU.1.2.2
        refine hd_iload pkX14_has rfl rfl ?_
        refine hd_imul pkX14_has rfl (by rcases ht with w9 | w9 <;> rw [w9] <;> omega) ?_
        refine hd_iast (n := 690) pkX14_has rfl (ghc17.cell 2 rfl) (by decide) (by omega) (by omega) (fun hh19 ehh19 => ?_)
        have ghh19 : Str t14 r14 hh19 := by rw [ehh19]; exact ghc17.setA rfl
        have CW : Ch 70 2496 2497 [677] hc17 hh19 := by rw [ehh19]; exact (Ch.refl _ _ _ _ _).sgn (by decide) (by decide) inS
        have VU : Hr 70 2496 2497 hh19 677 678 (tmQ times (coQ what x (ga h 2498 k) (ga h 2499 k) u * T (ga h 2508 (4 * k + u)) col)) := by
          rw [ehh19]
          exact VU.sg (by decide) (by decide) (by decide) (by decide) (tm_parts _ _).1 (tm_parts _ _).2 (sg_tm ht e55)
        have tb := tb.keep CW (by decide)
        have hC := hC.trans (CW.mono (by decide))
        have hO := hC.1
        have VS := VS.keep (by decide) CW (by decide) (by decide) (by decide) (by decide)
        refine hd_aload pkX14_has rfl rfl (Int.natCast_nonneg _) ?_
        refine hd_ipush (z := 681) pkX14_has rfl ?_
        refine hd_ipush (z := 682) pkX14_has rfl ?_
        refine hd_ipush (z := 677) pkX14_has rfl ?_
        refine hd_ipush (z := 678) pkX14_has rfl ?_
        have bS := zS u.toNat (by omega) (fun q => by omega)
        have bU := SzQ.tm (t := times) (bC.mul bT)
        refine hd_callV pkX14_has rfl (q := (KX14_addFraction, yX14_addFraction, 14, 4, 0)) rfl rfl rfl (As := [(0, 681), (0, 682), (0, 677), (0, 678)]) (rest := []) (c := 2495) rfl rfl (Nat.le_of_ble_eq_true rfl) (ghh19.cell 0 rfl).1 (ghh19.cell 0 rfl).2.1 (h_X14_addFraction (m1 := m) (m2 := (1 + m2)) (by decide) (by decide) (by decide) (by decide) (by decide) (by decide) (by decide) (by decide) (by decide) (by decide) (by decide) (by decide) (by decide) VS VU bS.1 bS.2 bU.1 bU.2 (by omega) ghh19) (hd_bV (fun hc20 pa => ?_))
        have ghc20 : Str t14 r14 hc20 := ghh19.only pa.1.1 (by decide)
        have hC := hC.trans (pa.1.mono (by decide))
        have hO := hC.1
        have tb := tb.keep pa.1 (by decide)
        have VS := (pa.2.r (rat_add _ _)).r (hs_s u0.1)
        refine hd_iinc (z := 1) pkX14_has rfl rfl (by omega) rfl ?_
        change MW _ _ _ _ _ [(6, (0, (u + 1))), (7, (0, (ga h 2508 (4 * k + u)))), (0, (2, ((2495 : Nat) : Int))), (1, (0, k)), (2, (0, what)), (3, (0, x)), (4, (0, col)), (5, (0, times))] _ _
        refine hd_goto pkX14_has rfl ?_
        refine m_sub [(0, (2, ((2495 : Nat) : Int))), (1, (0, k)), (2, (0, what)), (3, (0, x)), (4, (0, col)), (5, (0, times)), (6, (0, (u + 1)))] (List.forall_mem_cons.mpr ⟨rfl, List.forall_mem_cons.mpr ⟨rfl, List.forall_mem_cons.mpr ⟨rfl, List.forall_mem_cons.mpr ⟨rfl, List.forall_mem_cons.mpr ⟨rfl, List.forall_mem_cons.mpr ⟨rfl, List.forall_mem_cons.mpr ⟨rfl, fun _ h => absurd h List.not_mem_nil⟩⟩⟩⟩⟩⟩⟩) ?_
        refine ih2  ((u + 1)) hc20 ghc20 ?_ ?_ ?_ ?_ ?_
        · exact hC
        · omega
        · exact tb
        · exact VS
        · omega
  refine m_sub [(0, (2, ((2495 : Nat) : Int))), (1, (0, k)), (2, (0, what)), (3, (0, x)), (4, (0, col)), (5, (0, times)), (6, (0, 0))] (List.forall_mem_cons.mpr ⟨rfl, List.forall_mem_cons.mpr ⟨rfl, List.forall_mem_cons.mpr ⟨rfl, List.forall_mem_cons.mpr ⟨rfl, List.forall_mem_cons.mpr ⟨rfl, List.forall_mem_cons.mpr ⟨rfl, List.forall_mem_cons.mpr ⟨rfl, fun _ h => absurd h List.not_mem_nil⟩⟩⟩⟩⟩⟩⟩) ?_
  refine lp2 (((4 : Int) - (0)) + 1).toNat (0) h g ?_ ?_ ?_ ?_ ?_
  · exact Ch.refl _ _ _ _ _
  · omega
  · exact tb0
  · exact VS0.r (Rat.add_zero _).symm
  · omega
set_option maxRecDepth 20000 in
set_option maxHeartbeats 8000000 in
theorem h_X14_value {h : MH} {row k p rw mb pl M E0 : Int} {T : Int → Int → Rat} {D : Rat} (hk : 0 ≤ k ∧ k < M) (hp : 0 ≤ p ∧ p ≤ 4) (hM1 : 1 ≤ M) (hM3 : M ≤ 3) (hM : ga h 2495 3 = M) (hBE : ∀ k : Int, 0 ≤ k → k < M → (1 ≤ ga h 2498 k ∧ ga h 2498 k ≤ 12) ∧ (1 ≤ ga h 2499 k ∧ ga h 2499 k ≤ 12)) (hrow : 0 ≤ row ∧ row < 8) (hrw : ga h 2505 row = rw) (hmb : ga h 2506 row = mb) (hpl : ga h 2507 row = pl) (rwb : 0 ≤ rw ∧ rw ≤ 3) (mbb : 0 ≤ mb ∧ mb ≤ M) (mb3 : rw < 3 → mb < M) (plb : 0 ≤ pl ∧ pl ≤ 4) (hE0 : 1 ≤ E0 ∧ E0 ≤ 12) (hE9 : rw < 3 → E0 = ga h 2499 mb) (hE3 : rw = 3 → E0 = 1) (tb : Tab 2496 2497 h T) (fm : Fm T (4 * M) D) (htl : ∀ j : Int, 0 ≤ j → j < 4 * M → 0 ≤ ga h 2508 j ∧ ga h 2508 j < 4 * M) (g : Str t14 r14 h) : MCal KX14_value yX14_value 0 0 [(2, ((2495 : Nat) : Int)), (0, row), (0, k), (0, p)] h (mRV fun h' => Ch 70 2496 2497 [677, 678, 681, 682, 672, 673, 674, 675, 676] h h' ∧ Tab 2496 2497 h' T ∧ ∃ r : Rat, Hr 70 2496 2497 h' 681 682 r ∧ Vf (fF E0 D) Vm r ∧ r = valQ T (ga h 2508) (ga h 2498) (ga h 2499) M rw mb pl k p) := by
  refine MCal.ofMW (Or.inl rfl) ⟨cp_X14, rfl⟩ (Nat.le_of_ble_eq_true rfl) ?_
  generalize eQ : (mRV fun h' => Ch 70 2496 2497 [677, 678, 681, 682, 672, 673, 674, 675, 676] h h' ∧ Tab 2496 2497 h' T ∧ ∃ r : Rat, Hr 70 2496 2497 h' 681 682 r ∧ Vf (fF E0 D) Vm r ∧ r = valQ T (ga h 2508) (ga h 2498) (ga h 2499) M rw mb pl k p : MO → MH → Prop) = Q
  change MW KX14_value Q 0 0 (pcA pgX14_value 0) [(0, (2, ((2495 : Nat) : Int))), (1, (0, row)), (2, (0, k)), (3, (0, p))] [] h
  refine hd_locI (i := 1) rfl (fun rrow => ?_)
  refine hd_locI (i := 2) rfl (fun rk => ?_)
  refine hd_locI (i := 3) rfl (fun rp => ?_)
  have hC : Ch 70 2496 2497 [677, 678, 681, 682, 672, 673, 674, 675, 676] h h := Ch.refl _ _ _ _ _
  have hO := hC.1
  refine hd_ipush (z := 12) pkX14_value rfl ?_
  refine hd_ipush (z := 5) pkX14_value rfl ?_
  refine hd_iload pkX14_value rfl rfl ?_
  refine hd_imul pkX14_value rfl (by omega) ?_
  refine hd_iadd pkX14_value rfl (by omega) ?_
  refine hd_iload pkX14_value rfl rfl ?_
  refine hd_iadd pkX14_value rfl (by omega) ?_
  refine hd_istore pkX14_value rfl rfl ?_
  change MW _ _ _ _ _ [(4, (0, ((12 + (5 * k)) + p))), (0, (2, ((2495 : Nat) : Int))), (1, (0, row)), (2, (0, k)), (3, (0, p))] _ _
  refine hd_aload pkX14_value rfl rfl (Int.natCast_nonneg _) ?_
  refine hd_ipush (z := 681) pkX14_value rfl ?_
  refine hd_lpush (z := 0) pkX14_value rfl ?_
  refine hd_callV pkX14_value rfl (q := (KX14_small, yX14_small, 14, 2, 0)) rfl rfl rfl (As := [(0, 681), (1, 0)]) (rest := []) (c := 2495) rfl rfl (Nat.le_of_ble_eq_true rfl) (g.cell 0 rfl).1 (g.cell 0 rfl).2.1 (h_X14_small (by decide) (by decide) (by decide) g) (hd_bV (fun hc1 ps => ?_))
  have ghc1 : Str t14 r14 hc1 := g.only ps.1.1 (by decide)
  have hC := hC.trans (ps.1.mono (by decide))
  have hO := hC.1
  have tb := tb.keep ps.1 (by decide)
  have nA := nv_small ps
  refine hd_aload pkX14_value rfl rfl (Int.natCast_nonneg _) ?_
  refine hd_ipush (z := 682) pkX14_value rfl ?_
  refine hd_lpush (z := 1) pkX14_value rfl ?_
  refine hd_callV pkX14_value rfl (q := (KX14_small, yX14_small, 14, 2, 0)) rfl rfl rfl (As := [(0, 682), (1, 1)]) (rest := []) (c := 2495) rfl rfl (Nat.le_of_ble_eq_true rfl) (ghc1.cell 0 rfl).1 (ghc1.cell 0 rfl).2.1 (h_X14_small (by decide) (by decide) (by decide) ghc1) (hd_bV (fun hc2 ps => ?_))
  have ghc2 : Str t14 r14 hc2 := ghc1.only ps.1.1 (by decide)
  have hC := hC.trans (ps.1.mono (by decide))
  have hO := hC.1
  have tb := tb.keep ps.1 (by decide)
  have nA := nA.keep (by decide) ps.1 (by decide) (nm1 (by decide))
  have VS : Hr 70 2496 2497 hc2 681 682 0 := ⟨nA, nv_small ps, by decide⟩
  have vf : Vf (fF E0 D) 0 0 := Vf.zero
  refine hd_aload pkX14_value rfl rfl (Int.natCast_nonneg _) ?_
  refine hd_getR (n := 2506) pkX14_value rfl (ghc2.cell 0 rfl).1 (ghc2.cell 0 rfl).2.1 (ghc2.ref 10 rfl) ?_
  refine hd_iload pkX14_value rfl rfl ?_
  refine hd_iald (n := 8) pkX14_value rfl (ghc2.cell 11 rfl) (by omega) (by omega) (fun v3 ev3 rv3 => ?_)
  have qv3 : mb = v3 := by rw [ev3]; exact ((hO.ga (by decide) _).trans hmb).symm
  subst qv3
  refine hd_istore pkX14_value rfl rfl ?_
  change MW _ _ _ _ _ [(5, (0, mb)), (4, (0, ((12 + (5 * k)) + p))), (0, (2, ((2495 : Nat) : Int))), (1, (0, row)), (2, (0, k)), (3, (0, p))] _ _
  refine hd_aload pkX14_value rfl rfl (Int.natCast_nonneg _) ?_
  refine hd_getR (n := 2505) pkX14_value rfl (ghc2.cell 0 rfl).1 (ghc2.cell 0 rfl).2.1 (ghc2.ref 9 rfl) ?_
  refine hd_iload pkX14_value rfl rfl ?_
  refine hd_iald (n := 8) pkX14_value rfl (ghc2.cell 10 rfl) (by omega) (by omega) (fun v4 ev4 rv4 => ?_)
  have qv4 : rw = v4 := by rw [ev4]; exact ((hO.ga (by decide) _).trans hrw).symm
  subst qv4
  refine hd_ipush (z := 3) pkX14_value rfl ?_
  refine hd_ic_ge pkX14_value rfl (fun c5 => ?_) (fun c5 => ?_)
  · skip
    have cut64 : ∀ (_ : True) (hc64 : MH), Str t14 r14 hc64 → (Ch 70 2496 2497 [677, 678, 681, 682, 672, 673, 674, 675, 676] h hc64) → (Tab 2496 2497 hc64 T) → (∃ (r B : Rat), Hr 70 2496 2497 hc64 681 682 r ∧ Vf (fF E0 D) B r ∧ B ≤ 5 * fU 3 ∧ r = v3a T (ga h 2508) (ga h 2498) (ga h 2499) M mb (12 + 5 * k + p)) → MW KX14_value Q 0 0 (pcA pgX14_value 64) [(0, (2, ((2495 : Nat) : Int))), (1, (0, row)), (2, (0, k)), (3, (0, p)), (4, (0, ((12 + (5 * k)) + p))), (5, (0, mb))] [] hc64 := by
      intro _ hc64 gc64 hC tb vx
      obtain ⟨r, B, VS, vf, hB, er0⟩ := vx
      have hO := hC.1
      have cut75 : ∀ (_ : True) (hc75 : MH), Str t14 r14 hc75 → (Ch 70 2496 2497 [677, 678, 681, 682, 672, 673, 674, 675, 676] h hc75) → (Tab 2496 2497 hc75 T) → (∃ (r B : Rat), Hr 70 2496 2497 hc75 681 682 r ∧ Vf (fF E0 D) B r ∧ B ≤ 10 * fU 3 ∧ r = v3b T (ga h 2508) (ga h 2498) (ga h 2499) M mb (12 + 5 * k + p)) → MW KX14_value Q 0 0 (pcA pgX14_value 75) [(0, (2, ((2495 : Nat) : Int))), (1, (0, row)), (2, (0, k)), (3, (0, p)), (4, (0, ((12 + (5 * k)) + p))), (5, (0, mb))] [] hc75 := by
        intro _ hc75 gc75 hC tb vx
        obtain ⟨r, B, VS, vf, hB, er0⟩ := vx
        have hO := hC.1
        have cut88 : ∀ (_ : True), ((k = mb ∧ p = 0) ∨ (k = mb - 1 ∧ p = 4)) → MW KX14_value Q 0 0 (pcA pgX14_value 88) [(0, (2, ((2495 : Nat) : Int))), (1, (0, row)), (2, (0, k)), (3, (0, p)), (4, (0, ((12 + (5 * k)) + p))), (5, (0, mb))] [] hc75 := by
          intro _ kp9
          refine hd_aload pkX14_value rfl rfl (Int.natCast_nonneg _) ?_
          refine hd_ipush (z := 677) pkX14_value rfl ?_
          refine hd_ipush (z := 678) pkX14_value rfl ?_
          refine hd_lpush (z := 1) pkX14_value rfl ?_
          refine hd_lpush (z := 1) pkX14_value rfl ?_
          refine hd_callV pkX14_value rfl (q := (KX14_fraction, yX14_fraction, 14, 4, 0)) rfl rfl rfl (As := [(0, 677), (0, 678), (1, 1), (1, 1)]) (rest := []) (c := 2495) rfl rfl (Nat.le_of_ble_eq_true rfl) (gc75.cell 0 rfl).1 (gc75.cell 0 rfl).2.1 (h_X14_fraction (by decide) (by decide) (by decide) (by decide) (by decide) (by decide) (by decide) (by decide) (by decide) gc75) (hd_bV (fun hc6 pf => ?_))
          have ghc6 : Str t14 r14 hc6 := gc75.only pf.1.1 (by decide)
          have hC := hC.trans (pf.1.mono (by decide))
          have hO := hC.1
          have tb := tb.keep pf.1 (by decide)
          have VS := VS.keep (by decide) pf.1 (by decide) (by decide) (by decide) (by decide)
          have VU := pf.2
          refine hd_aload pkX14_value rfl rfl (Int.natCast_nonneg _) ?_
          refine hd_ipush (z := 681) pkX14_value rfl ?_
          refine hd_ipush (z := 682) pkX14_value rfl ?_
          refine hd_ipush (z := 677) pkX14_value rfl ?_
          refine hd_ipush (z := 678) pkX14_value rfl ?_
          have bU := divInt_sz1 (p := 1) (q := 1) ⟨by decide, by decide⟩ ⟨by decide, by decide⟩
          have bS := (vf.up (val_b1 hB)).sz fm hE0
          have e1 := hE3 (by omega)
          have vf : Vf (fF E0 D) (B + fU 3) (r + Rat.divInt 1 1) := by
            rw [e1] at vf ⊢
            exact vf.one fm
          refine hd_callV pkX14_value rfl (q := (KX14_addFraction, yX14_addFraction, 14, 4, 0)) rfl rfl rfl (As := [(0, 681), (0, 682), (0, 677), (0, 678)]) (rest := []) (c := 2495) rfl rfl (Nat.le_of_ble_eq_true rfl) (ghc6.cell 0 rfl).1 (ghc6.cell 0 rfl).2.1 (h_X14_addFraction (m1 := 5) (m2 := 1) (by decide) (by decide) (by decide) (by decide) (by decide) (by decide) (by decide) (by decide) (by decide) (by decide) (by decide) (by decide) (by decide) VS VU bS.1 bS.2 bU.1 bU.2 (by decide) ghc6) (hd_bV (fun hc7 pa => ?_))
          have ghc7 : Str t14 r14 hc7 := ghc6.only pa.1.1 (by decide)
          have hC := hC.trans (pa.1.mono (by decide))
          have hO := hC.1
          have tb := tb.keep pa.1 (by decide)
          have VS := pa.2.r (rat_add _ _)
          refine hd_vret pkX14_value rfl ?_
          subst eQ
          refine ⟨rfl, hC, tb, _, VS, vf.up (val_b2 hB), ?_⟩
          unfold valQ
          rw [if_neg (by omega), if_pos (by omega), er0]
        refine hd_iload pkX14_value rfl rfl ?_
        refine hd_iload pkX14_value rfl rfl ?_
        refine hd_ic_ne pkX14_value rfl (fun c8 => ?_) (fun c8 => ?_)
        · skip
          refine hd_iload pkX14_value rfl rfl ?_
          refine hd_iload pkX14_value rfl rfl ?_
          refine hd_ipush (z := 1) pkX14_value rfl ?_
          refine hd_isub pkX14_value rfl (by omega) ?_
          refine hd_ic_ne pkX14_value rfl (fun c9 => ?_) (fun c9 => ?_)
          · skip
            refine hd_vret pkX14_value rfl ?_
            subst eQ
            refine ⟨rfl, hC, tb, _, VS, vf.up (val_b1 hB), ?_⟩
            unfold valQ
            rw [if_neg (by omega), if_neg (by omega)]
            exact er0
          · skip
            refine hd_iload pkX14_value rfl rfl ?_
            refine hd_ipush (z := 4) pkX14_value rfl ?_
            refine hd_ic_ne pkX14_value rfl (fun c10 => ?_) (fun c10 => ?_)
            · skip
              refine hd_vret pkX14_value rfl ?_
              subst eQ
              refine ⟨rfl, hC, tb, _, VS, vf.up (val_b1 hB), ?_⟩
              unfold valQ
              rw [if_neg (by omega), if_neg (by omega)]
              exact er0
            · skip
              refine cut88 trivial ?_
              · omega
        · skip
          refine hd_iload pkX14_value rfl rfl ?_
          refine hd_if_eq pkX14_value rfl (fun c11 => ?_) (fun c11 => ?_)
          · skip
            refine cut88 trivial ?_
            · omega
          · skip
            refine hd_iload pkX14_value rfl rfl ?_
            refine hd_iload pkX14_value rfl rfl ?_
            refine hd_ipush (z := 1) pkX14_value rfl ?_
            refine hd_isub pkX14_value rfl (by omega) ?_
            refine hd_ic_ne pkX14_value rfl (fun c12 => ?_) (fun c12 => ?_)
            · skip
              refine hd_vret pkX14_value rfl ?_
              subst eQ
              refine ⟨rfl, hC, tb, _, VS, vf.up (val_b1 hB), ?_⟩
              unfold valQ
              rw [if_neg (by omega), if_neg (by omega)]
              exact er0
            · skip
              refine hd_iload pkX14_value rfl rfl ?_
              refine hd_ipush (z := 4) pkX14_value rfl ?_
              refine hd_ic_ne pkX14_value rfl (fun c13 => ?_) (fun c13 => ?_)
              · skip
                refine hd_vret pkX14_value rfl ?_
                subst eQ
                refine ⟨rfl, hC, tb, _, VS, vf.up (val_b1 hB), ?_⟩
                unfold valQ
                rw [if_neg (by omega), if_neg (by omega)]
                exact er0
              · skip
                refine cut88 trivial ?_
                · omega
      refine hd_iload pkX14_value rfl rfl ?_
      refine hd_if_le pkX14_value rfl (fun c14 => ?_) (fun c14 => ?_)
      · skip
        refine cut75 trivial hc64 gc64 ?_ ?_ ?_
        · exact hC
        · exact tb
        · exact ⟨r, _, VS, vf, (val_b3 hB).2.2, er0.trans (if_neg (by omega)).symm⟩
      · skip
        refine hd_aload pkX14_value rfl rfl (Int.natCast_nonneg _) ?_
        refine hd_iload pkX14_value rfl rfl ?_
        refine hd_ipush (z := 1) pkX14_value rfl ?_
        refine hd_isub pkX14_value rfl (by omega) ?_
        refine hd_ipush (z := 3) pkX14_value rfl ?_
        refine hd_ipush (z := 4) pkX14_value rfl ?_
        refine hd_iload pkX14_value rfl rfl ?_
        refine hd_ipush (z := (-1)) pkX14_value rfl ?_
        have eT : ga hc64 2508 = ga h 2508 := funext fun j => hO.ga (by decide) j
        have eL9 : ga hc64 2498 (mb - 1) = ga h 2498 (mb - 1) := hO.ga (by decide) _
        have bL := (hBE (mb - 1) (by omega) (by omega)).1
        have bS := (hBE (mb - 1) (by omega) (by omega)).2
        have eE : ga hc64 2499 (mb - 1) = ga h 2499 (mb - 1) := hO.ga (by decide) _
        rw [← hO.ga (d := 2498) (by decide) (mb - 1)] at bL
        rw [← eE] at bS
        have ht9 : ∀ u : Int, 0 ≤ u → u < 4 → 0 ≤ ga hc64 2508 (4 * (mb - 1) + u) ∧ ga hc64 2508 (4 * (mb - 1) + u) < 4 * M := fun u u0 u1 => by
          rw [eT]
          exact htl _ (by omega) (by omega)
        have hz := hs_all (S := r) (k := (mb - 1)) (w := 3) (x := 4) (t := (-1)) (col := (12 + 5 * k + p)) fm ⟨by omega, by omega⟩ ⟨by omega, by omega⟩ bL bS (Or.inr ⟨rfl, hE3 (by omega)⟩) hE0 ⟨by omega, by omega⟩ ht9 vf (val_b3 hB).2.1
        refine hd_callV pkX14_value rfl (q := (KX14_has, yX14_has, 14, 5, 0)) rfl rfl rfl (As := [(0, (mb - 1)), (0, 3), (0, 4), (0, ((12 + (5 * k)) + p)), (0, (-1))]) (rest := []) (c := 2495) rfl rfl (Nat.le_of_ble_eq_true rfl) (gc64.cell 0 rfl).1 (gc64.cell 0 rfl).2.1 (h_X14_has (m := 5) (m2 := 4) (by omega) (by omega) bL bS ⟨by omega, by omega⟩ ⟨by omega, by omega⟩ ⟨by omega, by omega⟩ (Or.inr rfl) tb VS (fun u u0 u1 => ⟨(ht9 u u0 u1).1, by have := (ht9 u u0 u1).2; omega⟩) (fun u u0 u1 => fm.sz (ht9 u u0 u1).1 (ht9 u u0 u1).2 (by omega) (by omega)) (fun n h4 _ => hz.1 n h4) (by decide) gc64) (hd_bV (fun hc15 ph => ?_))
        have ghc15 : Str t14 r14 hc15 := gc64.only ph.1.1 (by decide)
        have hC := hC.trans ph.1
        have hO := hC.1
        have tb := ph.2.1
        obtain ⟨r, VS, vf, er⟩ : ∃ r9 : Rat, Hr 70 2496 2497 hc15 681 682 r9 ∧ Vf (fF E0 D) (B + 5 * fU 3) r9 ∧ r9 = hvQ T (ga h 2508) (ga h 2498) (ga h 2499) (mb - 1) 3 4 (-1) (12 + 5 * k + p) r := ⟨_, ph.2.2, hz.2, by unfold hvQ; rw [eT, eL9, eE]⟩
        refine cut75 trivial hc15 ghc15 ?_ ?_ ?_
        · exact hC
        · exact tb
        · exact ⟨r, _, VS, vf, (val_b3 hB).1, er.trans (by unfold v3b; rw [if_pos (by omega), er0])⟩
    refine hd_iload pkX14_value rfl rfl ?_
    refine hd_aload pkX14_value rfl rfl (Int.natCast_nonneg _) ?_
    refine hd_getI pkX14_value rfl (ghc2.cell 0 rfl).1 (ghc2.cell 0 rfl).2.1 (fun v16 ev16 rv16 => ?_)
    have qv16 : M = v16 := by rw [ev16]; exact ((hO.ga (by decide) _).trans hM).symm
    subst qv16
    refine hd_ic_ge pkX14_value rfl (fun c17 => ?_) (fun c17 => ?_)
    · skip
      refine m_sub [(0, (2, ((2495 : Nat) : Int))), (1, (0, row)), (2, (0, k)), (3, (0, p)), (4, (0, ((12 + (5 * k)) + p))), (5, (0, mb))] (List.forall_mem_cons.mpr ⟨rfl, List.forall_mem_cons.mpr ⟨rfl, List.forall_mem_cons.mpr ⟨rfl, List.forall_mem_cons.mpr ⟨rfl, List.forall_mem_cons.mpr ⟨rfl, List.forall_mem_cons.mpr ⟨rfl, fun _ h => absurd h List.not_mem_nil⟩⟩⟩⟩⟩⟩) ?_
      refine cut64 trivial hc2 ghc2 ?_ ?_ ?_
      · exact hC
      · exact tb
      · exact ⟨0, _, VS, vf, val_b4.1, (if_neg (by omega)).symm⟩
    · skip
      refine hd_aload pkX14_value rfl rfl (Int.natCast_nonneg _) ?_
      refine hd_iload pkX14_value rfl rfl ?_
      refine hd_ipush (z := 3) pkX14_value rfl ?_
      refine hd_ipush (z := 0) pkX14_value rfl ?_
      refine hd_iload pkX14_value rfl rfl ?_
      refine hd_ipush (z := 1) pkX14_value rfl ?_
      have eT : ga hc2 2508 = ga h 2508 := funext fun j => hO.ga (by decide) j
      have eL9 : ga hc2 2498 mb = ga h 2498 mb := hO.ga (by decide) _
      have bL := (hBE mb (by omega) (by omega)).1
      have bS := (hBE mb (by omega) (by omega)).2
      have eE : ga hc2 2499 mb = ga h 2499 mb := hO.ga (by decide) _
      rw [← hO.ga (d := 2498) (by decide) mb] at bL
      rw [← eE] at bS
      have ht9 : ∀ u : Int, 0 ≤ u → u < 4 → 0 ≤ ga hc2 2508 (4 * mb + u) ∧ ga hc2 2508 (4 * mb + u) < 4 * M := fun u u0 u1 => by
        rw [eT]
        exact htl _ (by omega) (by omega)
      have hz := hs_all (S := 0) (k := mb) (w := 3) (x := 0) (t := 1) (col := (12 + 5 * k + p)) fm ⟨by omega, by omega⟩ ⟨by omega, by omega⟩ bL bS (Or.inr ⟨rfl, hE3 (by omega)⟩) hE0 ⟨by omega, by omega⟩ ht9 vf (val_b0 3)
      refine hd_callV pkX14_value rfl (q := (KX14_has, yX14_has, 14, 5, 0)) rfl rfl rfl (As := [(0, mb), (0, 3), (0, 0), (0, ((12 + (5 * k)) + p)), (0, 1)]) (rest := []) (c := 2495) rfl rfl (Nat.le_of_ble_eq_true rfl) (ghc2.cell 0 rfl).1 (ghc2.cell 0 rfl).2.1 (h_X14_has (m := 5) (m2 := 4) (by omega) (by omega) bL bS ⟨by omega, by omega⟩ ⟨by omega, by omega⟩ ⟨by omega, by omega⟩ (Or.inl rfl) tb VS (fun u u0 u1 => ⟨(ht9 u u0 u1).1, by have := (ht9 u u0 u1).2; omega⟩) (fun u u0 u1 => fm.sz (ht9 u u0 u1).1 (ht9 u u0 u1).2 (by omega) (by omega)) (fun n h4 _ => hz.1 n h4) (by decide) ghc2) (hd_bV (fun hc18 ph => ?_))
      have ghc18 : Str t14 r14 hc18 := ghc2.only ph.1.1 (by decide)
      have hC := hC.trans ph.1
      have hO := hC.1
      have tb := ph.2.1
      obtain ⟨r, VS, vf, er⟩ : ∃ r9 : Rat, Hr 70 2496 2497 hc18 681 682 r9 ∧ Vf (fF E0 D) (0 + 5 * fU 3) r9 ∧ r9 = hvQ T (ga h 2508) (ga h 2498) (ga h 2499) mb 3 0 1 (12 + 5 * k + p) 0 := ⟨_, ph.2.2, hz.2, by unfold hvQ; rw [eT, eL9, eE]⟩
      refine m_sub [(0, (2, ((2495 : Nat) : Int))), (1, (0, row)), (2, (0, k)), (3, (0, p)), (4, (0, ((12 + (5 * k)) + p))), (5, (0, mb))] (List.forall_mem_cons.mpr ⟨rfl, List.forall_mem_cons.mpr ⟨rfl, List.forall_mem_cons.mpr ⟨rfl, List.forall_mem_cons.mpr ⟨rfl, List.forall_mem_cons.mpr ⟨rfl, List.forall_mem_cons.mpr ⟨rfl, fun _ h => absurd h List.not_mem_nil⟩⟩⟩⟩⟩⟩) ?_
      refine cut64 trivial hc18 ghc18 ?_ ?_ ?_
      · exact hC
      · exact tb
      · exact ⟨r, _, VS, vf, val_b4.2, er.trans (if_pos (by omega)).symm⟩
  · skip
    refine hd_aload pkX14_value rfl rfl (Int.natCast_nonneg _) ?_
    refine hd_iload pkX14_value rfl rfl ?_
    have cut45 : ∀ (wq : Int), ((rw = 0 ∧ wq = 2) ∨ (rw = 1 ∧ wq = 3) ∨ (rw = 2 ∧ wq = 0)) → MW KX14_value Q 0 0 (pcA pgX14_value 45) [(0, (2, ((2495 : Nat) : Int))), (1, (0, row)), (2, (0, k)), (3, (0, p)), (4, (0, ((12 + (5 * k)) + p))), (5, (0, mb))] [(0, wq), (0, mb), (2, ((2495 : Nat) : Int))] hc2 := by
      intro wq wqv
      refine hd_aload pkX14_value rfl rfl (Int.natCast_nonneg _) ?_
      refine hd_getR (n := 2507) pkX14_value rfl (ghc2.cell 0 rfl).1 (ghc2.cell 0 rfl).2.1 (ghc2.ref 11 rfl) ?_
      refine hd_iload pkX14_value rfl rfl ?_
      refine hd_iald (n := 8) pkX14_value rfl (ghc2.cell 12 rfl) (by omega) (by omega) (fun v19 ev19 rv19 => ?_)
      have qv19 : pl = v19 := by rw [ev19]; exact ((hO.ga (by decide) _).trans hpl).symm
      subst qv19
      refine hd_iload pkX14_value rfl rfl ?_
      refine hd_ipush (z := 1) pkX14_value rfl ?_
      have eT : ga hc2 2508 = ga h 2508 := funext fun j => hO.ga (by decide) j
      have eL9 : ga hc2 2498 mb = ga h 2498 mb := hO.ga (by decide) _
      have bL := (hBE mb (by omega) (by omega)).1
      have bS := (hBE mb (by omega) (by omega)).2
      have eE : ga hc2 2499 mb = ga h 2499 mb := hO.ga (by decide) _
      rw [← hO.ga (d := 2498) (by decide) mb] at bL
      rw [← eE] at bS
      have ht9 : ∀ u : Int, 0 ≤ u → u < 4 → 0 ≤ ga hc2 2508 (4 * mb + u) ∧ ga hc2 2508 (4 * mb + u) < 4 * M := fun u u0 u1 => by
        rw [eT]
        exact htl _ (by omega) (by omega)
      have hz := hs_all (S := 0) (k := mb) (w := wq) (x := pl) (t := 1) (col := (12 + 5 * k + p)) fm ⟨by omega, by omega⟩ ⟨by omega, by omega⟩ bL bS (Or.inl (by rw [eE]; exact hE9 (by omega))) hE0 ⟨by omega, by omega⟩ ht9 vf (val_b0 wq)
      refine hd_callV pkX14_value rfl (q := (KX14_has, yX14_has, 14, 5, 0)) rfl rfl rfl (As := [(0, mb), (0, wq), (0, pl), (0, ((12 + (5 * k)) + p)), (0, 1)]) (rest := []) (c := 2495) rfl rfl (Nat.le_of_ble_eq_true rfl) (ghc2.cell 0 rfl).1 (ghc2.cell 0 rfl).2.1 (h_X14_has (m := 5) (m2 := 4) (by omega) (by omega) bL bS ⟨by omega, by omega⟩ ⟨by omega, by omega⟩ ⟨by omega, by omega⟩ (Or.inl rfl) tb VS (fun u u0 u1 => ⟨(ht9 u u0 u1).1, by have := (ht9 u u0 u1).2; omega⟩) (fun u u0 u1 => fm.sz (ht9 u u0 u1).1 (ht9 u u0 u1).2 (by omega) (by omega)) (fun n h4 _ => hz.1 n h4) (by decide) ghc2) (hd_bV (fun hc20 ph => ?_))
      have ghc20 : Str t14 r14 hc20 := ghc2.only ph.1.1 (by decide)
      have hC := hC.trans ph.1
      have hO := hC.1
      have tb := ph.2.1
      obtain ⟨r, VS, vf, er⟩ : ∃ r9 : Rat, Hr 70 2496 2497 hc20 681 682 r9 ∧ Vf (fF E0 D) (0 + 5 * fU wq) r9 ∧ r9 = hvQ T (ga h 2508) (ga h 2498) (ga h 2499) mb wq pl 1 (12 + 5 * k + p) 0 := ⟨_, ph.2.2, hz.2, by unfold hvQ; rw [eT, eL9, eE]⟩
      refine hd_vret pkX14_value rfl ?_
      subst eQ
      refine ⟨rfl, hC, tb, _, VS, vf.up (val_b0 wq), ?_⟩
      unfold valQ
      have q9 : (if rw = 0 then (2 : Int) else if rw = 1 then 3 else 0) = wq := by
        rcases wqv with ⟨a, b⟩ | ⟨a, b⟩ | ⟨a, b⟩ <;> rw [a, b] <;> rfl
      rw [if_pos (by omega), q9]
      exact er
    refine hd_aload pkX14_value rfl rfl (Int.natCast_nonneg _) ?_
    refine hd_getR (n := 2505) pkX14_value rfl (ghc2.cell 0 rfl).1 (ghc2.cell 0 rfl).2.1 (ghc2.ref 9 rfl) ?_
    refine hd_iload pkX14_value rfl rfl ?_
    refine hd_iald (n := 8) pkX14_value rfl (ghc2.cell 10 rfl) (by omega) (by omega) (fun v21 ev21 rv21 => ?_)
    have qv21 : rw = v21 := by rw [ev21]; exact ((hO.ga (by decide) _).trans hrw).symm
    subst qv21
    refine hd_if_ne pkX14_value rfl (fun c22 => ?_) (fun c22 => ?_)
    · skip
      refine hd_aload pkX14_value rfl rfl (Int.natCast_nonneg _) ?_
      refine hd_getR (n := 2505) pkX14_value rfl (ghc2.cell 0 rfl).1 (ghc2.cell 0 rfl).2.1 (ghc2.ref 9 rfl) ?_
      refine hd_iload pkX14_value rfl rfl ?_
      refine hd_iald (n := 8) pkX14_value rfl (ghc2.cell 10 rfl) (by omega) (by omega) (fun v23 ev23 rv23 => ?_)
      have qv23 : rw = v23 := by rw [ev23]; exact ((hO.ga (by decide) _).trans hrw).symm
      subst qv23
      refine hd_ipush (z := 1) pkX14_value rfl ?_
      refine hd_ic_ne pkX14_value rfl (fun c24 => ?_) (fun c24 => ?_)
      · skip
        refine hd_ipush (z := 0) pkX14_value rfl ?_
        refine m_sub [(0, (2, ((2495 : Nat) : Int))), (1, (0, row)), (2, (0, k)), (3, (0, p)), (4, (0, ((12 + (5 * k)) + p))), (5, (0, mb))] (List.forall_mem_cons.mpr ⟨rfl, List.forall_mem_cons.mpr ⟨rfl, List.forall_mem_cons.mpr ⟨rfl, List.forall_mem_cons.mpr ⟨rfl, List.forall_mem_cons.mpr ⟨rfl, List.forall_mem_cons.mpr ⟨rfl, fun _ h => absurd h List.not_mem_nil⟩⟩⟩⟩⟩⟩) ?_
        refine cut45 (0) ?_
        · omega
      · skip
        refine hd_ipush (z := 3) pkX14_value rfl ?_
        refine hd_goto pkX14_value rfl ?_
        refine m_sub [(0, (2, ((2495 : Nat) : Int))), (1, (0, row)), (2, (0, k)), (3, (0, p)), (4, (0, ((12 + (5 * k)) + p))), (5, (0, mb))] (List.forall_mem_cons.mpr ⟨rfl, List.forall_mem_cons.mpr ⟨rfl, List.forall_mem_cons.mpr ⟨rfl, List.forall_mem_cons.mpr ⟨rfl, List.forall_mem_cons.mpr ⟨rfl, List.forall_mem_cons.mpr ⟨rfl, fun _ h => absurd h List.not_mem_nil⟩⟩⟩⟩⟩⟩) ?_
        refine cut45 (3) ?_
        · omega
    · skip
      refine hd_ipush (z := 2) pkX14_value rfl ?_
      refine hd_goto pkX14_value rfl ?_
      refine m_sub [(0, (2, ((2495 : Nat) : Int))), (1, (0, row)), (2, (0, k)), (3, (0, p)), (4, (0, ((12 + (5 * k)) + p))), (5, (0, mb))] (List.forall_mem_cons.mpr ⟨rfl, List.forall_mem_cons.mpr ⟨rfl, List.forall_mem_cons.mpr ⟨rfl, List.forall_mem_cons.mpr ⟨rfl, List.forall_mem_cons.mpr ⟨rfl, List.forall_mem_cons.mpr ⟨rfl, fun _ h => absurd h List.not_mem_nil⟩⟩⟩⟩⟩⟩) ?_
      refine cut45 (2) ?_
      · omega
