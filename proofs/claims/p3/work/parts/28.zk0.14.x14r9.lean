set_option maxRecDepth 20000 in
set_option maxHeartbeats 8000000 in
theorem h_X14_addPiece {h : MH} {l : Int} {T : Int → Int → Rat} {F a b r : Rat} {j : Nat} (hl : 1 ≤ l ∧ l ≤ 12) (fk : Fk9 F) (tb : Tab 2496 2497 h T) (VA : Hr 70 2496 2497 h 683 684 a) (VB : Hr 70 2496 2497 h 681 682 b) (VR : Hr 70 2496 2497 h 685 686 r) (va : Vf F Vm a) (vb : Vf F Vm b) (ar : Ar9 F j r) (hj : j ≤ 11) (g : Str t14 r14 h) : MCal KX14_addPiece yX14_addPiece 0 0 [(2, ((2495 : Nat) : Int)), (0, l)] h (mRV fun h' => Ch 70 2496 2497 [677, 678, 679, 680, 685, 686, 672, 673, 674, 675, 676] h h' ∧ Tab 2496 2497 h' T ∧ Hr 70 2496 2497 h' 681 682 b ∧ ∃ r' : Rat, Hr 70 2496 2497 h' 685 686 r' ∧ Ar9 F (j + 1) r') := by
  refine MCal.ofMW (Or.inl rfl) ⟨cp_X14, rfl⟩ (Nat.le_of_ble_eq_true rfl) ?_
  generalize eQ : (mRV fun h' => Ch 70 2496 2497 [677, 678, 679, 680, 685, 686, 672, 673, 674, 675, 676] h h' ∧ Tab 2496 2497 h' T ∧ Hr 70 2496 2497 h' 681 682 b ∧ ∃ r' : Rat, Hr 70 2496 2497 h' 685 686 r' ∧ Ar9 F (j + 1) r' : MO → MH → Prop) = Q
  change MW KX14_addPiece Q 0 0 (pcA pgX14_addPiece 0) [(0, (2, ((2495 : Nat) : Int))), (1, (0, l))] [] h
  refine hd_locI (i := 1) rfl (fun rl => ?_)
  have hC : Ch 70 2496 2497 [677, 678, 679, 680, 685, 686, 672, 673, 674, 675, 676] h h := Ch.refl _ _ _ _ _
  refine hd_aload pkX14_addPiece rfl rfl (Int.natCast_nonneg _) ?_
  refine hd_getR (n := 2497) pkX14_addPiece rfl (g.cell 0 rfl).1 (g.cell 0 rfl).2.1 (g.ref 1 rfl) ?_
  refine hd_ipush (z := 683) pkX14_addPiece rfl ?_
  refine hd_iald (n := 690) pkX14_addPiece rfl (g.cell 2 rfl) (by omega) (by omega) (fun v1 ev1 rv1 => ?_)
  obtain ⟨lf, qv1⟩ : ∃ lf : Int, lf = v1 := ⟨_, rfl⟩
  have slf : lf = a.num.sign := by rw [qv1, ev1]; exact VA.1.2.2
  have tlf := sgn3 a.num
  subst qv1
  refine hd_istore pkX14_addPiece rfl rfl ?_
  change MW _ _ _ _ _ [(2, (0, lf)), (0, (2, ((2495 : Nat) : Int))), (1, (0, l))] _ _
  refine hd_aload pkX14_addPiece rfl rfl (Int.natCast_nonneg _) ?_
  refine hd_getR (n := 2497) pkX14_addPiece rfl (g.cell 0 rfl).1 (g.cell 0 rfl).2.1 (g.ref 1 rfl) ?_
  refine hd_ipush (z := 681) pkX14_addPiece rfl ?_
  refine hd_iald (n := 690) pkX14_addPiece rfl (g.cell 2 rfl) (by omega) (by omega) (fun v2 ev2 rv2 => ?_)
  obtain ⟨rg, qv2⟩ : ∃ rg : Int, rg = v2 := ⟨_, rfl⟩
  have srg : rg = b.num.sign := by rw [qv2, ev2]; exact VB.1.2.2
  have trg := sgn3 b.num
  subst qv2
  refine hd_istore pkX14_addPiece rfl rfl ?_
  change MW _ _ _ _ _ [(3, (0, rg)), (2, (0, lf)), (0, (2, ((2495 : Nat) : Int))), (1, (0, l))] _ _
  have cut15 : ∀ (_ : True), (0 < lf ∨ 0 < rg) → MW KX14_addPiece Q 0 0 (pcA pgX14_addPiece 15) [(0, (2, ((2495 : Nat) : Int))), (1, (0, l)), (2, (0, lf)), (3, (0, rg))] [] h := by
    intro _ sg0
    refine hd_aload pkX14_addPiece rfl rfl (Int.natCast_nonneg _) ?_
    refine hd_ipush (z := 679) pkX14_addPiece rfl ?_
    refine hd_ipush (z := 680) pkX14_addPiece rfl ?_
    refine hd_iload pkX14_addPiece rfl rfl ?_
    refine hd_i2l pkX14_addPiece rfl ?_
    refine hd_lpush (z := 8) pkX14_addPiece rfl ?_
    have cut119 : ∀ (_ : True) (hj119 : MH), Str t14 r14 hj119 → (Ch 70 2496 2497 [677, 678, 679, 680, 685, 686, 672, 673, 674, 675, 676] h hj119) → (Tab 2496 2497 hj119 T) → (Hr 70 2496 2497 hj119 681 682 b) → (Hr 70 2496 2497 hj119 685 686 r) → (∃ q : Rat, Hr 70 2496 2497 hj119 679 680 q ∧ Pc9 F q) → MW KX14_addPiece Q 0 0 (pcA pgX14_addPiece 119) [(0, (2, ((2495 : Nat) : Int))), (1, (0, l)), (2, (0, lf)), (3, (0, rg))] [] hj119 := by
      intro _ hj119 gc119 hC tb VB VR vm
      obtain ⟨q, VM, pq⟩ := vm
      refine hd_aload pkX14_addPiece rfl rfl (Int.natCast_nonneg _) ?_
      refine hd_ipush (z := 685) pkX14_addPiece rfl ?_
      refine hd_ipush (z := 686) pkX14_addPiece rfl ?_
      refine hd_ipush (z := 679) pkX14_addPiece rfl ?_
      refine hd_ipush (z := 680) pkX14_addPiece rfl ?_
      refine hd_callV pkX14_addPiece rfl (q := (KX14_addFraction, yX14_addFraction, 14, 4, 0)) rfl rfl rfl (As := [(0, 685), (0, 686), (0, 679), (0, 680)]) (rest := []) (c := 2495) rfl rfl (Nat.le_of_ble_eq_true rfl) (gc119.cell 0 rfl).1 (gc119.cell 0 rfl).2.1 (h_X14_addFraction (m1 := 53) (m2 := 9) (by decide) (by decide) (by decide) (by decide) (by decide) (by decide) (by decide) (by decide) (by decide) (by decide) (by decide) (by decide) (by decide) VR VM (ar.sz fk hj).1 (ar.sz fk hj).2 (pq.sz fk).1 (pq.sz fk).2 (by decide) gc119) (hd_bV (fun hc3 pa => ?_))
      have ghc3 : Str t14 r14 hc3 := gc119.only pa.1.1 (by decide)
      have hC := hC.trans (pa.1.mono (by decide))
      have tb := tb.keep pa.1 (by decide)
      have VB := VB.keep (by decide) pa.1 (by decide) (by decide) (by decide) (by decide)
      have VR := pa.2.r (rat_add _ _)
      refine hd_vret pkX14_addPiece rfl ?_
      subst eQ
      exact ⟨rfl, hC, tb, VB, _, VR, ar.add pq⟩
    refine hd_callV pkX14_addPiece rfl (q := (KX14_fraction, yX14_fraction, 14, 4, 0)) rfl rfl rfl (As := [(0, 679), (0, 680), (1, l), (1, 8)]) (rest := []) (c := 2495) rfl rfl (Nat.le_of_ble_eq_true rfl) (g.cell 0 rfl).1 (g.cell 0 rfl).2.1 (h_X14_fraction (by decide) (by decide) (by decide) (by decide) (by decide) (by decide) (by decide) (by decide) (by omega) g) (hd_bV (fun hc4 pf => ?_))
    have ghc4 : Str t14 r14 hc4 := g.only pf.1.1 (by decide)
    have hC := hC.trans (pf.1.mono (by decide))
    have tb := tb.keep pf.1 (by decide)
    have VA := VA.keep (by decide) pf.1 (by decide) (by decide) (by decide) (by decide)
    have VB := VB.keep (by decide) pf.1 (by decide) (by decide) (by decide) (by decide)
    have VR := VR.keep (by decide) pf.1 (by decide) (by decide) (by decide) (by decide)
    have VM := pf.2
    have cut26 : ∀ (_ : True), ((lf < 0 ∧ 0 < rg) ∨ (rg < 0 ∧ 0 < lf)) → MW KX14_addPiece Q 0 0 (pcA pgX14_addPiece 26) [(0, (2, ((2495 : Nat) : Int))), (1, (0, l)), (2, (0, lf)), (3, (0, rg))] [] hc4 := by
      intro _ sg1
      refine hd_aload pkX14_addPiece rfl rfl (Int.natCast_nonneg _) ?_
      refine hd_ipush (z := 681) pkX14_addPiece rfl ?_
      refine hd_ipush (z := 677) pkX14_addPiece rfl ?_
      have VBo := VB
      obtain ⟨B1, B2, B0⟩ := VBo
      refine hd_callV pkX14_addPiece rfl (q := (KX14_copy, yX14_copy, 14, 2, 0)) rfl rfl rfl (As := [(0, 681), (0, 677)]) (rest := []) (c := 2495) rfl rfl (Nat.le_of_ble_eq_true rfl) (ghc4.cell 0 rfl).1 (ghc4.cell 0 rfl).2.1 (h_X14_copy (by decide) (by decide) (by decide) (by decide) B1.1 ghc4) (hd_bV (fun hc5 pc => ?_))
      have ghc5 : Str t14 r14 hc5 := ghc4.only pc.1.1 (by decide)
      have hC := hC.trans (pc.1.mono (by decide))
      have tb := tb.keep pc.1 (by decide)
      have VA := VA.keep (by decide) pc.1 (by decide) (by decide) (by decide) (by decide)
      have VB := VB.keep (by decide) pc.1 (by decide) (by decide) (by decide) (by decide)
      have VR := VR.keep (by decide) pc.1 (by decide) (by decide) (by decide) (by decide)
      have VM := VM.keep (by decide) pc.1 (by decide) (by decide) (by decide) (by decide)
      have B2 := B2.keep (by decide) pc.1 (by decide) (by decide)
      have VU := nv_copy B1 pc
      refine hd_aload pkX14_addPiece rfl rfl (Int.natCast_nonneg _) ?_
      refine hd_ipush (z := 682) pkX14_addPiece rfl ?_
      refine hd_ipush (z := 678) pkX14_addPiece rfl ?_
      refine hd_callV pkX14_addPiece rfl (q := (KX14_copy, yX14_copy, 14, 2, 0)) rfl rfl rfl (As := [(0, 682), (0, 678)]) (rest := []) (c := 2495) rfl rfl (Nat.le_of_ble_eq_true rfl) (ghc5.cell 0 rfl).1 (ghc5.cell 0 rfl).2.1 (h_X14_copy (by decide) (by decide) (by decide) (by decide) B2.1 ghc5) (hd_bV (fun hc6 pc => ?_))
      have ghc6 : Str t14 r14 hc6 := ghc5.only pc.1.1 (by decide)
      have hC := hC.trans (pc.1.mono (by decide))
      have tb := tb.keep pc.1 (by decide)
      have VA := VA.keep (by decide) pc.1 (by decide) (by decide) (by decide) (by decide)
      have VB := VB.keep (by decide) pc.1 (by decide) (by decide) (by decide) (by decide)
      have VR := VR.keep (by decide) pc.1 (by decide) (by decide) (by decide) (by decide)
      have VM := VM.keep (by decide) pc.1 (by decide) (by decide) (by decide) (by decide)
      have VU := VU.keep (by decide) pc.1 (by decide) (by decide)
      have VU : Hr 70 2496 2497 hc6 677 678 b := ⟨VU, nv_copy B2 pc, B0⟩
      refine hd_aload pkX14_addPiece rfl rfl (Int.natCast_nonneg _) ?_
      refine hd_getR (n := 2497) pkX14_addPiece rfl (ghc6.cell 0 rfl).1 (ghc6.cell 0 rfl).2.1 (ghc6.ref 1 rfl) ?_
      refine hd_ipush (z := 677) pkX14_addPiece rfl ?_
      refine hd_aload pkX14_addPiece rfl rfl (Int.natCast_nonneg _) ?_
      refine hd_getR (n := 2497) pkX14_addPiece rfl (ghc6.cell 0 rfl).1 (ghc6.cell 0 rfl).2.1 (ghc6.ref 1 rfl) ?_
      refine hd_ipush (z := 677) pkX14_addPiece rfl ?_
      refine hd_iald (n := 690) pkX14_addPiece rfl (ghc6.cell 2 rfl) (by omega) (by omega) (fun v7 ev7 rv7 => ?_)
      have e55 := ev7
      have w55 : -1 ≤ v7 ∧ v7 ≤ 1 := by rw [ev7]; exact VU.1.sg
      refine hd_ineg pkX14_addPiece rfl (by omega) ?_
      refine hd_iast (n := 690) pkX14_addPiece rfl (ghc6.cell 2 rfl) (by decide) (by omega) (by omega) (fun hh8 ehh8 => ?_)
      have ghh8 : Str t14 r14 hh8 := by rw [ehh8]; exact ghc6.setA rfl
      have CW : Ch 70 2496 2497 [677] hc6 hh8 := by rw [ehh8]; exact (Ch.refl _ _ _ _ _).sgn (by decide) (by decide) inS
      have tb := tb.keep CW (by decide)
      have hC := hC.trans (CW.mono (by decide))
      have VA := VA.keep (by decide) CW (by decide) (by decide) (by decide) (by decide)
      have VB := VB.keep (by decide) CW (by decide) (by decide) (by decide) (by decide)
      have VR := VR.keep (by decide) CW (by decide) (by decide) (by decide) (by decide)
      have VM := VM.keep (by decide) CW (by decide) (by decide) (by decide) (by decide)
      have VU : Hr 70 2496 2497 hh8 677 678 (-b) := by
        rw [ehh8]
        exact VU.neg e55 (by decide) (by decide) (by decide) (by decide)
      refine hd_aload pkX14_addPiece rfl rfl (Int.natCast_nonneg _) ?_
      refine hd_ipush (z := 677) pkX14_addPiece rfl ?_
      refine hd_ipush (z := 678) pkX14_addPiece rfl ?_
      refine hd_ipush (z := 683) pkX14_addPiece rfl ?_
      refine hd_ipush (z := 684) pkX14_addPiece rfl ?_
      have la : lf = 1 → 0 < a := fun q => sg_gt (slf ▸ q)
      have lb : rg = 1 → 0 < b := fun q => sg_gt (srg ▸ q)
      have la2 : lf = -1 → a < 0 := fun q => sg_lt (slf ▸ q)
      have lb2 : rg = -1 → b < 0 := fun q => sg_lt (srg ▸ q)
      obtain ⟨x, hx4⟩ : ∃ x : Rat, x = if 0 < lf then a else b := ⟨_, rfl⟩
      have hx3 : (0 < a ∧ b < 0 ∧ x = a) ∨ (0 < b ∧ a < 0 ∧ x = b) := by
        rcases sg1 with ⟨q, q2⟩ | ⟨q, q2⟩
        · exact Or.inr ⟨lb (by omega), la2 (by omega), by rw [hx4, if_neg (by omega)]⟩
        · exact Or.inl ⟨la (by omega), lb2 (by omega), by rw [hx4, if_pos q2]⟩
      refine hd_callV pkX14_addPiece rfl (q := (KX14_addFraction, yX14_addFraction, 14, 4, 0)) rfl rfl rfl (As := [(0, 677), (0, 678), (0, 683), (0, 684)]) (rest := []) (c := 2495) rfl rfl (Nat.le_of_ble_eq_true rfl) (ghh8.cell 0 rfl).1 (ghh8.cell 0 rfl).2.1 (h_X14_addFraction (m1 := 5) (m2 := 5) (by decide) (by decide) (by decide) (by decide) (by decide) (by decide) (by decide) (by decide) (by decide) (by decide) (by decide) (by decide) (by decide) VU VA (vb.fk fk).neg.1 (vb.fk fk).neg.2 (va.fk fk).1 (va.fk fk).2 (by decide) ghh8) (hd_bV (fun hc9 pa => ?_))
      have ghc9 : Str t14 r14 hc9 := ghh8.only pa.1.1 (by decide)
      have hC := hC.trans (pa.1.mono (by decide))
      have tb := tb.keep pa.1 (by decide)
      have VA := VA.keep (by decide) pa.1 (by decide) (by decide) (by decide) (by decide)
      have VB := VB.keep (by decide) pa.1 (by decide) (by decide) (by decide) (by decide)
      have VR := VR.keep (by decide) pa.1 (by decide) (by decide) (by decide) (by decide)
      have VM := VM.keep (by decide) pa.1 (by decide) (by decide) (by decide) (by decide)
      have VU := pa.2.r (rat_add _ _)
      have pn := pc_tri fk va vb hl hx3
      refine hd_aload pkX14_addPiece rfl rfl (Int.natCast_nonneg _) ?_
      refine hd_getR (n := 2497) pkX14_addPiece rfl (ghc9.cell 0 rfl).1 (ghc9.cell 0 rfl).2.1 (ghc9.ref 1 rfl) ?_
      refine hd_ipush (z := 677) pkX14_addPiece rfl ?_
      have cut63 : ∀ (sv : Int), (sv = 1) → MW KX14_addPiece Q 0 0 (pcA pgX14_addPiece 63) [(0, (2, ((2495 : Nat) : Int))), (1, (0, l)), (2, (0, lf)), (3, (0, rg))] [(0, sv), (0, 677), (2, ((2497 : Nat) : Int))] hc9 := by
        intro sv svv
        refine hd_iast (n := 690) pkX14_addPiece rfl (ghc9.cell 2 rfl) (by decide) (by omega) (by omega) (fun hh10 ehh10 => ?_)
        have ghh10 : Str t14 r14 hh10 := by rw [ehh10]; exact ghc9.setA rfl
        have CW : Ch 70 2496 2497 [677] hc9 hh10 := by rw [ehh10]; exact (Ch.refl _ _ _ _ _).sgn (by decide) (by decide) inS
        have tb := tb.keep CW (by decide)
        have hC := hC.trans (CW.mono (by decide))
        have VA := VA.keep (by decide) CW (by decide) (by decide) (by decide) (by decide)
        have VB := VB.keep (by decide) CW (by decide) (by decide) (by decide) (by decide)
        have VR := VR.keep (by decide) CW (by decide) (by decide) (by decide) (by decide)
        have VM := VM.keep (by decide) CW (by decide) (by decide) (by decide) (by decide)
        have VU : Hr 70 2496 2497 hh10 677 678 (ab (-b + a)) := by
          rw [ehh10]
          exact VU.sg (by decide) (by decide) (by decide) (by decide) (ab_parts _).1 (ab_parts _).2 (by rw [svv, ab_sgn pn.2])
        refine hd_aload pkX14_addPiece rfl rfl (Int.natCast_nonneg _) ?_
        refine hd_ipush (z := 679) pkX14_addPiece rfl ?_
        refine hd_ipush (z := 680) pkX14_addPiece rfl ?_
        refine hd_ipush (z := 677) pkX14_addPiece rfl ?_
        refine hd_ipush (z := 678) pkX14_addPiece rfl ?_
        have bL := divInt_sz1 (p := l) (q := 8) ⟨by omega, by omega⟩ ⟨by decide, by decide⟩
        have bU := sz_tri fk va vb
        have nn : (ab (-b + a)).num ≠ 0 := fun q => by
          have := ab_sgn pn.2
          rw [q] at this
          exact absurd this (by decide)
        refine hd_callV pkX14_addPiece rfl (q := (KX14_divideFraction, yX14_divideFraction, 14, 4, 0)) rfl rfl rfl (As := [(0, 679), (0, 680), (0, 677), (0, 678)]) (rest := []) (c := 2495) rfl rfl (Nat.le_of_ble_eq_true rfl) (ghh10.cell 0 rfl).1 (ghh10.cell 0 rfl).2.1 (h_X14_divideFraction (m1 := 1) (m2 := 5) (by decide) (by decide) (by decide) (by decide) (by decide) (by decide) (by decide) (by decide) (by decide) (by decide) (by decide) (by decide) (by decide) VM VU nn bL.1 bL.2 bU.1 bU.2 (by decide) ghh10) (hd_bV (fun hc11 pd => ?_))
        have ghc11 : Str t14 r14 hc11 := ghh10.only pd.1.1 (by decide)
        have hC := hC.trans (pd.1.mono (by decide))
        have tb := tb.keep pd.1 (by decide)
        have VA := VA.keep (by decide) pd.1 (by decide) (by decide) (by decide) (by decide)
        have VB := VB.keep (by decide) pd.1 (by decide) (by decide) (by decide) (by decide)
        have VR := VR.keep (by decide) pd.1 (by decide) (by decide) (by decide) (by decide)
        have VM := pd.2.r (rat_div _ _)
        have bM := sz_trq hl bU nn
        refine hd_aload pkX14_addPiece rfl rfl (Int.natCast_nonneg _) ?_
        refine hd_ipush (z := 679) pkX14_addPiece rfl ?_
        refine hd_ipush (z := 680) pkX14_addPiece rfl ?_
        have cut78 : ∀ (xu : Int), ((0 < lf ∧ xu = 683) ∨ (¬ 0 < lf ∧ xu = 681)) → MW KX14_addPiece Q 0 0 (pcA pgX14_addPiece 78) [(0, (2, ((2495 : Nat) : Int))), (1, (0, l)), (2, (0, lf)), (3, (0, rg))] [(0, xu), (0, 680), (0, 679), (2, ((2495 : Nat) : Int))] hc11 := by
          intro xu hxu
          have cut83 : ∀ (xd : Int), ((0 < lf ∧ xd = 684) ∨ (¬ 0 < lf ∧ xd = 682)) → MW KX14_addPiece Q 0 0 (pcA pgX14_addPiece 83) [(0, (2, ((2495 : Nat) : Int))), (1, (0, l)), (2, (0, lf)), (3, (0, rg))] [(0, xd), (0, xu), (0, 680), (0, 679), (2, ((2495 : Nat) : Int))] hc11 := by
            intro xd hxd
            have bX : SzQ 5 x := by
              rw [hx4]
              split
              · exact va.fk fk
              · exact vb.fk fk
            have PX : Hr 70 2496 2497 hc11 xu xd x := by
              rcases hxu with ⟨q, q2⟩ | ⟨q, q2⟩
              · rw [q2, show xd = 684 by omega, hx4, if_pos q]
                exact VA
              · rw [q2, show xd = 682 by omega, hx4, if_neg q]
                exact VB
            refine hd_callV pkX14_addPiece rfl (q := (KX14_timesFraction, yX14_timesFraction, 14, 4, 0)) rfl rfl rfl (As := [(0, 679), (0, 680), (0, xu), (0, xd)]) (rest := []) (c := 2495) rfl rfl (Nat.le_of_ble_eq_true rfl) (ghc11.cell 0 rfl).1 (ghc11.cell 0 rfl).2.1 (h_X14_timesFraction (m1 := 6) (m2 := 5) (by decide) (by decide) (by decide) (by decide) (by omega) (by omega) (by omega) (by omega) (by decide) (by decide) (by decide) (by simp only [List.mem_cons, List.not_mem_nil, or_false, not_or]; omega) (by simp only [List.mem_cons, List.not_mem_nil, or_false, not_or]; omega) VM PX bM.1 bM.2 bX.1 bX.2 (by decide) ghc11) (hd_bV (fun hc12 pt => ?_))
            have ghc12 : Str t14 r14 hc12 := ghc11.only pt.1.1 (by decide)
            have hC := hC.trans (pt.1.mono (by decide))
            have tb := tb.keep pt.1 (by decide)
            have VA := VA.keep (by decide) pt.1 (by decide) (by decide) (by decide) (by decide)
            have VB := VB.keep (by decide) pt.1 (by decide) (by decide) (by decide) (by decide)
            have VR := VR.keep (by decide) pt.1 (by decide) (by decide) (by decide) (by decide)
            have VM := pt.2.r (rat_mul _ _)
            have bM2 := bM.mul bX
            refine hd_aload pkX14_addPiece rfl rfl (Int.natCast_nonneg _) ?_
            refine hd_ipush (z := 679) pkX14_addPiece rfl ?_
            refine hd_ipush (z := 680) pkX14_addPiece rfl ?_
            have cut92 : ∀ (yu : Int), ((0 < lf ∧ yu = 683) ∨ (¬ 0 < lf ∧ yu = 681)) → MW KX14_addPiece Q 0 0 (pcA pgX14_addPiece 92) [(0, (2, ((2495 : Nat) : Int))), (1, (0, l)), (2, (0, lf)), (3, (0, rg))] [(0, yu), (0, 680), (0, 679), (2, ((2495 : Nat) : Int))] hc12 := by
              intro yu hyu
              have cut97 : ∀ (yd : Int), ((0 < lf ∧ yd = 684) ∨ (¬ 0 < lf ∧ yd = 682)) → MW KX14_addPiece Q 0 0 (pcA pgX14_addPiece 97) [(0, (2, ((2495 : Nat) : Int))), (1, (0, l)), (2, (0, lf)), (3, (0, rg))] [(0, yd), (0, yu), (0, 680), (0, 679), (2, ((2495 : Nat) : Int))] hc12 := by
                intro yd hyd
                have bX : SzQ 5 x := by
                  rw [hx4]
                  split
                  · exact va.fk fk
                  · exact vb.fk fk
                have PX : Hr 70 2496 2497 hc12 yu yd x := by
                  rcases hyu with ⟨q, q2⟩ | ⟨q, q2⟩
                  · rw [q2, show yd = 684 by omega, hx4, if_pos q]
                    exact VA
                  · rw [q2, show yd = 682 by omega, hx4, if_neg q]
                    exact VB
                refine hd_callV pkX14_addPiece rfl (q := (KX14_timesFraction, yX14_timesFraction, 14, 4, 0)) rfl rfl rfl (As := [(0, 679), (0, 680), (0, yu), (0, yd)]) (rest := []) (c := 2495) rfl rfl (Nat.le_of_ble_eq_true rfl) (ghc12.cell 0 rfl).1 (ghc12.cell 0 rfl).2.1 (h_X14_timesFraction (m1 := 11) (m2 := 5) (by decide) (by decide) (by decide) (by decide) (by omega) (by omega) (by omega) (by omega) (by decide) (by decide) (by decide) (by simp only [List.mem_cons, List.not_mem_nil, or_false, not_or]; omega) (by simp only [List.mem_cons, List.not_mem_nil, or_false, not_or]; omega) VM PX bM2.1 bM2.2 bX.1 bX.2 (by decide) ghc12) (hd_bV (fun hc13 pt => ?_))
                have ghc13 : Str t14 r14 hc13 := ghc12.only pt.1.1 (by decide)
                have hC := hC.trans (pt.1.mono (by decide))
                have tb := tb.keep pt.1 (by decide)
                have VA := VA.keep (by decide) pt.1 (by decide) (by decide) (by decide) (by decide)
                have VB := VB.keep (by decide) pt.1 (by decide) (by decide) (by decide) (by decide)
                have VR := VR.keep (by decide) pt.1 (by decide) (by decide) (by decide) (by decide)
                have VM := pt.2.r (rat_mul _ _)
                refine hd_goto pkX14_addPiece rfl ?_
                refine cut119 trivial hc13 ghc13 ?_ ?_ ?_ ?_ ?_
                · exact hC
                · exact tb
                · exact VB
                · exact VR
                · first
                    | exact ⟨_, VM, pn.1⟩
                    | exact ⟨_, VM, pc_same va vb hl⟩
              refine hd_iload pkX14_addPiece rfl rfl ?_
              refine hd_if_le pkX14_addPiece rfl (fun c14 => ?_) (fun c14 => ?_)
              · skip
                refine hd_ipush (z := 682) pkX14_addPiece rfl ?_
                refine cut97 (682) ?_
                · omega
              · skip
                refine hd_ipush (z := 684) pkX14_addPiece rfl ?_
                refine hd_goto pkX14_addPiece rfl ?_
                refine cut97 (684) ?_
                · omega
            refine hd_iload pkX14_addPiece rfl rfl ?_
            refine hd_if_le pkX14_addPiece rfl (fun c15 => ?_) (fun c15 => ?_)
            · skip
              refine hd_ipush (z := 681) pkX14_addPiece rfl ?_
              refine cut92 (681) ?_
              · omega
            · skip
              refine hd_ipush (z := 683) pkX14_addPiece rfl ?_
              refine hd_goto pkX14_addPiece rfl ?_
              refine cut92 (683) ?_
              · omega
          refine hd_iload pkX14_addPiece rfl rfl ?_
          refine hd_if_le pkX14_addPiece rfl (fun c16 => ?_) (fun c16 => ?_)
          · skip
            refine hd_ipush (z := 682) pkX14_addPiece rfl ?_
            refine cut83 (682) ?_
            · omega
          · skip
            refine hd_ipush (z := 684) pkX14_addPiece rfl ?_
            refine hd_goto pkX14_addPiece rfl ?_
            refine cut83 (684) ?_
            · omega
        refine hd_iload pkX14_addPiece rfl rfl ?_
        refine hd_if_le pkX14_addPiece rfl (fun c17 => ?_) (fun c17 => ?_)
        · skip
          refine hd_ipush (z := 681) pkX14_addPiece rfl ?_
          refine cut78 (681) ?_
          · omega
        · skip
          refine hd_ipush (z := 683) pkX14_addPiece rfl ?_
          refine hd_goto pkX14_addPiece rfl ?_
          refine cut78 (683) ?_
          · omega
      refine hd_aload pkX14_addPiece rfl rfl (Int.natCast_nonneg _) ?_
      refine hd_getR (n := 2497) pkX14_addPiece rfl (ghc9.cell 0 rfl).1 (ghc9.cell 0 rfl).2.1 (ghc9.ref 1 rfl) ?_
      refine hd_ipush (z := 677) pkX14_addPiece rfl ?_
      refine hd_iald (n := 690) pkX14_addPiece rfl (ghc9.cell 2 rfl) (by omega) (by omega) (fun v18 ev18 rv18 => ?_)
      have s9 : v18 = (-b + a).num.sign := by rw [ev18]; exact VU.1.2.2
      have t9 := sgn3 (-b + a).num
      have n9 : (-b + a).num ≠ 0 := fun q => pn.2 (rat_num0 q)
      refine hd_if_ge pkX14_addPiece rfl (fun c19 => ?_) (fun c19 => ?_)
      · skip
        refine hd_aload pkX14_addPiece rfl rfl (Int.natCast_nonneg _) ?_
        refine hd_getR (n := 2497) pkX14_addPiece rfl (ghc9.cell 0 rfl).1 (ghc9.cell 0 rfl).2.1 (ghc9.ref 1 rfl) ?_
        refine hd_ipush (z := 677) pkX14_addPiece rfl ?_
        refine hd_iald (n := 690) pkX14_addPiece rfl (ghc9.cell 2 rfl) (by omega) (by omega) (fun v20 ev20 rv20 => ?_)
        have s8 : v20 = (-b + a).num.sign := by rw [ev20]; exact VU.1.2.2
        refine cut63 (v20) ?_
        · omega
      · skip
        refine hd_ipush (z := 1) pkX14_addPiece rfl ?_
        refine hd_goto pkX14_addPiece rfl ?_
        refine cut63 (1) ?_
        · omega
    refine hd_iload pkX14_addPiece rfl rfl ?_
    refine hd_if_lt pkX14_addPiece rfl (fun c21 => ?_) (fun c21 => ?_)
    · skip
      refine cut26 trivial ?_
      · omega
    · skip
      refine hd_iload pkX14_addPiece rfl rfl ?_
      refine hd_if_ge pkX14_addPiece rfl (fun c22 => ?_) (fun c22 => ?_)
      · skip
        refine hd_aload pkX14_addPiece rfl rfl (Int.natCast_nonneg _) ?_
        refine hd_ipush (z := 681) pkX14_addPiece rfl ?_
        refine hd_ipush (z := 677) pkX14_addPiece rfl ?_
        have VBo := VB
        obtain ⟨B1, B2, B0⟩ := VBo
        refine hd_callV pkX14_addPiece rfl (q := (KX14_copy, yX14_copy, 14, 2, 0)) rfl rfl rfl (As := [(0, 681), (0, 677)]) (rest := []) (c := 2495) rfl rfl (Nat.le_of_ble_eq_true rfl) (ghc4.cell 0 rfl).1 (ghc4.cell 0 rfl).2.1 (h_X14_copy (by decide) (by decide) (by decide) (by decide) B1.1 ghc4) (hd_bV (fun hc23 pc => ?_))
        have ghc23 : Str t14 r14 hc23 := ghc4.only pc.1.1 (by decide)
        have hC := hC.trans (pc.1.mono (by decide))
        have tb := tb.keep pc.1 (by decide)
        have VA := VA.keep (by decide) pc.1 (by decide) (by decide) (by decide) (by decide)
        have VB := VB.keep (by decide) pc.1 (by decide) (by decide) (by decide) (by decide)
        have VR := VR.keep (by decide) pc.1 (by decide) (by decide) (by decide) (by decide)
        have VM := VM.keep (by decide) pc.1 (by decide) (by decide) (by decide) (by decide)
        have B2 := B2.keep (by decide) pc.1 (by decide) (by decide)
        have VU := nv_copy B1 pc
        refine hd_aload pkX14_addPiece rfl rfl (Int.natCast_nonneg _) ?_
        refine hd_ipush (z := 682) pkX14_addPiece rfl ?_
        refine hd_ipush (z := 678) pkX14_addPiece rfl ?_
        refine hd_callV pkX14_addPiece rfl (q := (KX14_copy, yX14_copy, 14, 2, 0)) rfl rfl rfl (As := [(0, 682), (0, 678)]) (rest := []) (c := 2495) rfl rfl (Nat.le_of_ble_eq_true rfl) (ghc23.cell 0 rfl).1 (ghc23.cell 0 rfl).2.1 (h_X14_copy (by decide) (by decide) (by decide) (by decide) B2.1 ghc23) (hd_bV (fun hc24 pc => ?_))
        have ghc24 : Str t14 r14 hc24 := ghc23.only pc.1.1 (by decide)
        have hC := hC.trans (pc.1.mono (by decide))
        have tb := tb.keep pc.1 (by decide)
        have VA := VA.keep (by decide) pc.1 (by decide) (by decide) (by decide) (by decide)
        have VB := VB.keep (by decide) pc.1 (by decide) (by decide) (by decide) (by decide)
        have VR := VR.keep (by decide) pc.1 (by decide) (by decide) (by decide) (by decide)
        have VM := VM.keep (by decide) pc.1 (by decide) (by decide) (by decide) (by decide)
        have VU := VU.keep (by decide) pc.1 (by decide) (by decide)
        have VU : Hr 70 2496 2497 hc24 677 678 b := ⟨VU, nv_copy B2 pc, B0⟩
        refine hd_aload pkX14_addPiece rfl rfl (Int.natCast_nonneg _) ?_
        refine hd_ipush (z := 677) pkX14_addPiece rfl ?_
        refine hd_ipush (z := 678) pkX14_addPiece rfl ?_
        refine hd_ipush (z := 683) pkX14_addPiece rfl ?_
        refine hd_ipush (z := 684) pkX14_addPiece rfl ?_
        refine hd_callV pkX14_addPiece rfl (q := (KX14_addFraction, yX14_addFraction, 14, 4, 0)) rfl rfl rfl (As := [(0, 677), (0, 678), (0, 683), (0, 684)]) (rest := []) (c := 2495) rfl rfl (Nat.le_of_ble_eq_true rfl) (ghc24.cell 0 rfl).1 (ghc24.cell 0 rfl).2.1 (h_X14_addFraction (m1 := 5) (m2 := 5) (by decide) (by decide) (by decide) (by decide) (by decide) (by decide) (by decide) (by decide) (by decide) (by decide) (by decide) (by decide) (by decide) VU VA (vb.fk fk).1 (vb.fk fk).2 (va.fk fk).1 (va.fk fk).2 (by decide) ghc24) (hd_bV (fun hc25 pa => ?_))
        have ghc25 : Str t14 r14 hc25 := ghc24.only pa.1.1 (by decide)
        have hC := hC.trans (pa.1.mono (by decide))
        have tb := tb.keep pa.1 (by decide)
        have VA := VA.keep (by decide) pa.1 (by decide) (by decide) (by decide) (by decide)
        have VB := VB.keep (by decide) pa.1 (by decide) (by decide) (by decide) (by decide)
        have VR := VR.keep (by decide) pa.1 (by decide) (by decide) (by decide) (by decide)
        have VM := VM.keep (by decide) pa.1 (by decide) (by decide) (by decide) (by decide)
        have VU := pa.2.r (rat_add _ _)
        refine hd_aload pkX14_addPiece rfl rfl (Int.natCast_nonneg _) ?_
        refine hd_ipush (z := 679) pkX14_addPiece rfl ?_
        refine hd_ipush (z := 680) pkX14_addPiece rfl ?_
        refine hd_ipush (z := 677) pkX14_addPiece rfl ?_
        refine hd_ipush (z := 678) pkX14_addPiece rfl ?_
        have bL := divInt_sz1 (p := l) (q := 8) ⟨by omega, by omega⟩ ⟨by decide, by decide⟩
        have bU := (vb.fk fk).add (va.fk fk)
        refine hd_callV pkX14_addPiece rfl (q := (KX14_timesFraction, yX14_timesFraction, 14, 4, 0)) rfl rfl rfl (As := [(0, 679), (0, 680), (0, 677), (0, 678)]) (rest := []) (c := 2495) rfl rfl (Nat.le_of_ble_eq_true rfl) (ghc25.cell 0 rfl).1 (ghc25.cell 0 rfl).2.1 (h_X14_timesFraction (m1 := 1) (m2 := 11) (by decide) (by decide) (by decide) (by decide) (by decide) (by decide) (by decide) (by decide) (by decide) (by decide) (by decide) (by decide) (by decide) VM VU bL.1 bL.2 bU.1 bU.2 (by decide) ghc25) (hd_bV (fun hc26 pt => ?_))
        have ghc26 : Str t14 r14 hc26 := ghc25.only pt.1.1 (by decide)
        have hC := hC.trans (pt.1.mono (by decide))
        have tb := tb.keep pt.1 (by decide)
        have VA := VA.keep (by decide) pt.1 (by decide) (by decide) (by decide) (by decide)
        have VB := VB.keep (by decide) pt.1 (by decide) (by decide) (by decide) (by decide)
        have VR := VR.keep (by decide) pt.1 (by decide) (by decide) (by decide) (by decide)
        have VM := pt.2.r (rat_mul _ _)
        refine cut119 trivial hc26 ghc26 ?_ ?_ ?_ ?_ ?_
        · exact hC
        · exact tb
        · exact VB
        · exact VR
        · first
            | exact ⟨_, VM, pn.1⟩
            | exact ⟨_, VM, pc_same va vb hl⟩
      · skip
        refine cut26 trivial ?_
        · omega
  refine hd_iload pkX14_addPiece rfl rfl ?_
  refine hd_if_gt pkX14_addPiece rfl (fun c27 => ?_) (fun c27 => ?_)
  · skip
    refine m_sub [(0, (2, ((2495 : Nat) : Int))), (1, (0, l)), (2, (0, lf)), (3, (0, rg))] (List.forall_mem_cons.mpr ⟨rfl, List.forall_mem_cons.mpr ⟨rfl, List.forall_mem_cons.mpr ⟨rfl, List.forall_mem_cons.mpr ⟨rfl, fun _ h => absurd h List.not_mem_nil⟩⟩⟩⟩) ?_
    refine cut15 trivial ?_
    · omega
  · skip
    refine hd_iload pkX14_addPiece rfl rfl ?_
    refine hd_if_gt pkX14_addPiece rfl (fun c28 => ?_) (fun c28 => ?_)
    · skip
      refine m_sub [(0, (2, ((2495 : Nat) : Int))), (1, (0, l)), (2, (0, lf)), (3, (0, rg))] (List.forall_mem_cons.mpr ⟨rfl, List.forall_mem_cons.mpr ⟨rfl, List.forall_mem_cons.mpr ⟨rfl, List.forall_mem_cons.mpr ⟨rfl, fun _ h => absurd h List.not_mem_nil⟩⟩⟩⟩) ?_
      refine cut15 trivial ?_
      · omega
    · skip
      refine hd_vret pkX14_addPiece rfl ?_
      subst eQ
      exact ⟨rfl, hC, tb, VB, _, VR, ar.skip⟩
