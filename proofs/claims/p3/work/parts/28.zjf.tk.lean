/-! X0 by hand: what is read -/
set_option maxRecDepth 20000 in
set_option maxHeartbeats 8000000 in
theorem h_X0_take {h : MH} (sb : 0 ≤ ga h 161 8 ∧ ga h 161 8 ≤ 50) (ok : OKT h 3 1 ∧ 1 < ga h 161 8) (sz : ∀ b : Int, 0 ≤ b → b < 3 → (1 ≤ ga h (sR b) 0 ∧ ga h (sR b) 0 ≤ 12) ∧ (1 ≤ ga h (sR b) 1 ∧ ga h (sR b) 1 ≤ 12)) (se : ∀ j : Int, 0 ≤ j → j < 4 → -1000 ≤ ga h 168 j ∧ ga h 168 j ≤ 1000) (g0 : StrZ zT h) : MCal KX0_take yX0_take 0 0 [(2, ((161 : Nat) : Int))] h (mRV fun h' => ∃ bm : Int, (1 ≤ bm ∧ bm ≤ 3) ∧ TQ h bm h' ∧ ga h' 161 6 = 0) := by
  refine MCal.ofMW (Or.inl rfl) ⟨cp_X0, rfl⟩ (Nat.le_of_ble_eq_true rfl) ?_
  generalize eQ : (mRV fun h' => ∃ bm : Int, (1 ≤ bm ∧ bm ≤ 3) ∧ TQ h bm h' ∧ ga h' 161 6 = 0 : MO → MH → Prop) = Q
  change MW KX0_take Q 0 0 (pcA pgX0_take 0) [(0, (2, ((161 : Nat) : Int)))] [] h
  have g : TQ h (ga h 161 0) h := ⟨g0, Only.refl _ _, fun _ _ _ _ _ => rfl, sz, se, rfl⟩
  refine hd_aload pkX0_take rfl rfl (Int.natCast_nonneg _) ?_
  refine hd_ipush (z := 0) pkX0_take rfl ?_
  refine hd_putI pkX0_take rfl (st_cell g.1 (k := 16) (n := 0) (by decide +kernel)).1 (st_cell g.1 (k := 16) (n := 0) (by decide +kernel)).2.1 (fun hh1 ehh1 => ?_)
  replace ehh1 : hh1 = sa h 161 0 0 := ehh1
  have ghh1 : TQ h (0) hh1 := by rw [ehh1]; exact g.beam
  refine hd_aload pkX0_take rfl rfl (Int.natCast_nonneg _) ?_
  refine hd_ipush (z := 0) pkX0_take rfl ?_
  refine hd_aload pkX0_take rfl rfl (Int.natCast_nonneg _) ?_
  refine hd_ipush (z := 0) pkX0_take rfl ?_
  have sb7 : 0 ≤ ga hh1 161 8 ∧ ga hh1 161 8 ≤ 50 := by rw [ghh1.2.2.1 8 (by decide) (by decide) (by decide) (by decide)]; exact sb
  refine hd_callV pkX0_take rfl (q := (KX0_signAt, yX0_signAt, 0, 1, 0)) rfl rfl rfl (As := [(0, 0)]) (rest := [(0, 0), (2, ((161 : Nat) : Int))]) (c := 161) rfl rfl (Nat.le_of_ble_eq_true rfl) (st_cell ghh1.1 (k := 16) (n := 0) (by decide +kernel)).1 (st_cell ghh1.1 (k := 16) (n := 0) (by decide +kernel)).2.1 (h_X0_signAt sb7 ghh1.1) (hd_bI (fun x7 hc2 px7 => ?_))
  obtain ⟨px7, ehc2⟩ := px7
  replace ehc2 := ehc2.symm
  subst ehc2
  rw [ghh1.sg] at px7
  refine hd_callV pkX0_take rfl (q := (KX0_takeNode, yX0_takeNode, 0, 2, 0)) rfl rfl rfl (As := [(0, 0), (0, x7)]) (rest := []) (c := 161) rfl rfl (Nat.le_of_ble_eq_true rfl) (st_cell ghh1.1 (k := 16) (n := 0) (by decide +kernel)).1 (st_cell ghh1.1 (k := 16) (n := 0) (by decide +kernel)).2.1 (h_X0_takeNode ⟨by omega, by omega⟩ ghh1.1) (hd_bV (fun hc3 p4 => ?_))
  have ghc3 : TQ h (0) hc3 := ghh1.node p4.1 p4.2.1 p4.2.2
  refine hd_ipush (z := 1) pkX0_take rfl ?_
  refine hd_istore pkX0_take rfl rfl ?_
  change MW _ _ _ _ _ [(1, (0, 1)), (0, (2, ((161 : Nat) : Int)))] _ _
  have lp11 : ∀ (N11 : Nat) (i bm : Int) (hT : MH), TQ h bm hT → (1 ≤ i ∧ i ≤ 1 + 9 * bm) → (0 ≤ bm ∧ bm ≤ 3) → (OKT h (3 - bm).toNat i) → (3 : Int) - bm < (N11 : Int) → MW KX0_take Q 0 0 (pcA pgX0_take 11) [(0, (2, ((161 : Nat) : Int))), (1, (0, i))] [] hT := by
    intro N11
    induction N11 with
    | zero => intro i bm hT g11 ib bb okt hm11; exfalso; omega
    | succ N11 ih11 =>
      intro i bm hT g11 ib bb okt hm11
      refine hd_iload pkX0_take rfl rfl ?_
      refine hd_aload pkX0_take rfl rfl (Int.natCast_nonneg _) ?_
      refine hd_getI pkX0_take rfl (st_cell g11.1 (k := 16) (n := 0) (by decide +kernel)).1 (st_cell g11.1 (k := 16) (n := 0) (by decide +kernel)).2.1 (fun v5 ev5 rv5 => ?_)
      replace ev5 : v5 = ga hT 161 8 := ev5
      rw [g11.2.2.1 8 (by decide) (by decide) (by decide) (by decide)] at ev5
      refine hd_ic_ge pkX0_take rfl (fun c6 => ?_) (fun c6 => ?_)
      · skip
        refine hd_aload pkX0_take rfl rfl (Int.natCast_nonneg _) ?_
        refine hd_ipush (z := 0) pkX0_take rfl ?_
        refine hd_putI pkX0_take rfl (st_cell g11.1 (k := 16) (n := 0) (by decide +kernel)).1 (st_cell g11.1 (k := 16) (n := 0) (by decide +kernel)).2.1 (fun hh7 ehh7 => ?_)
        replace ehh7 : hh7 = sa hT 161 6 0 := ehh7
        have ghh7 : TQ h (bm) hh7 := by rw [ehh7]; exact g11.fld (by decide)
        have w140 : ga hh7 161 6 = 0 := by rw [ehh7, ga_sa _ _ _ (by decide) (by decide), if_pos rfl]
        refine hd_aload pkX0_take rfl rfl (Int.natCast_nonneg _) ?_
        refine hd_ipush (z := 0) pkX0_take rfl ?_
        refine hd_putZ pkX0_take rfl (st_cell ghh7.1 (k := 16) (n := 0) (by decide +kernel)).1 (st_cell ghh7.1 (k := 16) (n := 0) (by decide +kernel)).2.1 (by omega) (fun hh8 ehh8 => ?_)
        replace ehh8 : hh8 = sa hh7 161 9 0 := ehh8
        have ghh8 : TQ h (bm) hh8 := by rw [ehh8]; exact ghh7.fld (by decide)
        have w143 : ga hh8 161 6 = 0 := by rw [ehh8, ga_sa _ _ _ (by decide) (by decide), if_neg (by decide)]; exact w140
        refine hd_vret pkX0_take rfl ?_
        subst eQ
        exact ⟨rfl, bm, ⟨by omega, by omega⟩, ghh8, w143⟩
      · skip
        refine hd_aload pkX0_take rfl rfl (Int.natCast_nonneg _) ?_
        refine hd_getI pkX0_take rfl (st_cell g11.1 (k := 16) (n := 0) (by decide +kernel)).1 (st_cell g11.1 (k := 16) (n := 0) (by decide +kernel)).2.1 (fun v9 ev9 rv9 => ?_)
        have qv9 : bm = v9 := by rw [show v9 = ga hT 161 0 from ev9]; exact g11.2.2.2.2.2.symm
        subst qv9
        refine hd_ipush (z := 3) pkX0_take rfl ?_
        refine hd_ic_ge pkX0_take rfl (fun c10 => ?_) (fun c10 => ?_)
        · skip
          refine hd_aload pkX0_take rfl rfl (Int.natCast_nonneg _) ?_
          refine hd_ipush (z := 0) pkX0_take rfl ?_
          refine hd_putI pkX0_take rfl (st_cell g11.1 (k := 16) (n := 0) (by decide +kernel)).1 (st_cell g11.1 (k := 16) (n := 0) (by decide +kernel)).2.1 (fun hh11 ehh11 => ?_)
          replace ehh11 : hh11 = sa hT 161 6 0 := ehh11
          have ghh11 : TQ h (bm) hh11 := by rw [ehh11]; exact g11.fld (by decide)
          have w140 : ga hh11 161 6 = 0 := by rw [ehh11, ga_sa _ _ _ (by decide) (by decide), if_pos rfl]
          refine hd_aload pkX0_take rfl rfl (Int.natCast_nonneg _) ?_
          refine hd_ipush (z := 0) pkX0_take rfl ?_
          refine hd_putZ pkX0_take rfl (st_cell ghh11.1 (k := 16) (n := 0) (by decide +kernel)).1 (st_cell ghh11.1 (k := 16) (n := 0) (by decide +kernel)).2.1 (by omega) (fun hh12 ehh12 => ?_)
          replace ehh12 : hh12 = sa hh11 161 9 0 := ehh12
          have ghh12 : TQ h (bm) hh12 := by rw [ehh12]; exact ghh11.fld (by decide)
          have w143 : ga hh12 161 6 = 0 := by rw [ehh12, ga_sa _ _ _ (by decide) (by decide), if_neg (by decide)]; exact w140
          refine hd_vret pkX0_take rfl ?_
          subst eQ
          exact ⟨rfl, bm, ⟨by omega, by omega⟩, ghh12, w143⟩
        · skip
          refine hd_aload pkX0_take rfl rfl (Int.natCast_nonneg _) ?_
          refine hd_getR (n := 166) pkX0_take rfl (st_cell g11.1 (k := 16) (n := 0) (by decide +kernel)).1 (st_cell g11.1 (k := 16) (n := 0) (by decide +kernel)).2.1 (st_ref g11.1 (by decide +kernel)) ?_
          refine hd_ipush (z := 2) pkX0_take rfl ?_
          refine hd_aload pkX0_take rfl rfl (Int.natCast_nonneg _) ?_
          refine hd_getI pkX0_take rfl (st_cell g11.1 (k := 16) (n := 0) (by decide +kernel)).1 (st_cell g11.1 (k := 16) (n := 0) (by decide +kernel)).2.1 (fun v13 ev13 rv13 => ?_)
          have qv13 : bm = v13 := by rw [show v13 = ga hT 161 0 from ev13]; exact g11.2.2.2.2.2.symm
          subst qv13
          refine hd_imul pkX0_take rfl (by omega) ?_
          refine hd_aload pkX0_take rfl rfl (Int.natCast_nonneg _) ?_
          refine hd_iload pkX0_take rfl rfl ?_
          have sb27 : 0 ≤ ga hT 161 8 ∧ ga hT 161 8 ≤ 50 := by rw [g11.2.2.1 8 (by decide) (by decide) (by decide) (by decide)]; exact sb
          refine hd_callV pkX0_take rfl (q := (KX0_signAt, yX0_signAt, 0, 1, 0)) rfl rfl rfl (As := [(0, i)]) (rest := [(0, (2 * bm)), (2, ((166 : Nat) : Int))]) (c := 161) rfl rfl (Nat.le_of_ble_eq_true rfl) (st_cell g11.1 (k := 16) (n := 0) (by decide +kernel)).1 (st_cell g11.1 (k := 16) (n := 0) (by decide +kernel)).2.1 (h_X0_signAt sb27 g11.1) (hd_bI (fun x27 hc14 px27 => ?_))
          obtain ⟨px27, ehc14⟩ := px27
          replace ehc14 := ehc14.symm
          subst ehc14
          rw [g11.sg] at px27
          refine hd_ipush (z := 104) pkX0_take rfl ?_
          have cut33 : ∀ (hv : Int), (hv = hb0 h (i)) → (0 ≤ hv ∧ hv ≤ 1) → MW KX0_take Q 0 0 (pcA pgX0_take 33) [(0, (2, ((161 : Nat) : Int))), (1, (0, i))] [(0, hv), (0, (2 * bm)), (2, ((166 : Nat) : Int))] hT := by
            intro hv hvv hvb
            refine hd_zast (n := 6) pkX0_take rfl (st_cell g11.1 (c := 166) (k := 2) (n := 6) (by decide +kernel)) (by first | decide | (unfold sR; omega)) (by omega) (by omega) (by omega) (fun hh15 ehh15 => ?_)
            have ghh15 : TQ h (bm) hh15 := by rw [ehh15]; exact g11.hin
            have w33 : ga hh15 166 (2 * bm) = hv := by rw [ehh15, ga_sa _ _ _ (by omega) (by omega), if_pos rfl]
            refine hd_iload pkX0_take rfl rfl ?_
            refine hd_aload pkX0_take rfl rfl (Int.natCast_nonneg _) ?_
            refine hd_getR (n := 166) pkX0_take rfl (st_cell ghh15.1 (k := 16) (n := 0) (by decide +kernel)).1 (st_cell ghh15.1 (k := 16) (n := 0) (by decide +kernel)).2.1 (st_ref ghh15.1 (by decide +kernel)) ?_
            refine hd_ipush (z := 2) pkX0_take rfl ?_
            refine hd_aload pkX0_take rfl rfl (Int.natCast_nonneg _) ?_
            refine hd_getI pkX0_take rfl (st_cell ghh15.1 (k := 16) (n := 0) (by decide +kernel)).1 (st_cell ghh15.1 (k := 16) (n := 0) (by decide +kernel)).2.1 (fun v16 ev16 rv16 => ?_)
            have qv16 : bm = v16 := by rw [show v16 = ga hh15 161 0 from ev16]; exact ghh15.2.2.2.2.2.symm
            subst qv16
            refine hd_imul pkX0_take rfl (by omega) ?_
            refine hd_zald (n := 6) pkX0_take rfl (st_cell ghh15.1 (c := 166) (k := 2) (n := 6) (by decide +kernel)) (by omega) (by omega) (fun v17 ev17 rv17 => ?_)
            rw [w33] at ev17
            have cut46 : ∀ (iv : Int), (iv = hv) → MW KX0_take Q 0 0 (pcA pgX0_take 46) [(0, (2, ((161 : Nat) : Int))), (1, (0, i))] [(0, iv), (0, i)] hh15 := by
              intro iv ivv
              refine hd_iadd pkX0_take rfl (by omega) ?_
              refine hd_istore pkX0_take rfl rfl ?_
              change MW _ _ _ _ _ [(1, (0, (i + iv))), (0, (2, ((161 : Nat) : Int)))] _ _
              refine hd_aload pkX0_take rfl rfl (Int.natCast_nonneg _) ?_
              refine hd_getR (n := 162) pkX0_take rfl (st_cell ghh15.1 (k := 16) (n := 0) (by decide +kernel)).1 (st_cell ghh15.1 (k := 16) (n := 0) (by decide +kernel)).2.1 (st_ref ghh15.1 (by decide +kernel)) ?_
              refine hd_aload pkX0_take rfl rfl (Int.natCast_nonneg _) ?_
              refine hd_getI pkX0_take rfl (st_cell ghh15.1 (k := 16) (n := 0) (by decide +kernel)).1 (st_cell ghh15.1 (k := 16) (n := 0) (by decide +kernel)).2.1 (fun v18 ev18 rv18 => ?_)
              have qv18 : bm = v18 := by rw [show v18 = ga hh15 161 0 from ev18]; exact ghh15.2.2.2.2.2.symm
              subst qv18
              refine hd_aldR (n := 3) pkX0_take rfl (st_cell ghh15.1 (c := 162) (k := 6) (n := 3) (by decide +kernel)) (Or.inl rfl) (by omega) (by omega) (fun v19 ev19 => ?_)
              rw [st_size ghh15.1 ⟨by omega, by omega⟩] at ev19
              subst v19
              refine hd_ipush (z := 0) pkX0_take rfl ?_
              refine hd_aload pkX0_take rfl rfl (Int.natCast_nonneg _) ?_
              refine hd_iload pkX0_take rfl rfl ?_
              have sb56 : 0 ≤ ga hh15 161 8 ∧ ga hh15 161 8 ≤ 50 := by rw [ghh15.2.2.1 8 (by decide) (by decide) (by decide) (by decide)]; exact sb
              refine hd_callV pkX0_take rfl (q := (KX0_numberAt, yX0_numberAt, 0, 1, 0)) rfl rfl rfl (As := [(0, (i + iv))]) (rest := [(0, 0), (2, ((sR bm : Nat) : Int))]) (c := 161) rfl rfl (Nat.le_of_ble_eq_true rfl) (st_cell ghh15.1 (k := 16) (n := 0) (by decide +kernel)).1 (st_cell ghh15.1 (k := 16) (n := 0) (by decide +kernel)).2.1 (h_X0_numberAt ⟨by omega, by omega⟩ sb56 ghh15.1) (hd_bI (fun n56 hc20 pn56 => ?_))
              obtain ⟨pn56, ehc20⟩ := pn56
              replace ehc20 := ehc20.symm
              subst ehc20
              rw [ghh15.nA] at pn56
              have e1 : p10 h i = i + iv := by rw [ivv, hvv]; rfl
              have okb : okb0 h i ∧ OKT h (3 - (bm + 1)).toNat (nx0 h i) := by
                have z := okt
                rw [show (3 - bm).toNat = (3 - (bm + 1)).toNat + 1 by omega] at z
                exact z.resolve_left (by omega)
              have n1 : n56 ≠ 0 := by rw [pn56.1, ← e1]; exact okb.1.1
              refine hd_iast (n := 2) pkX0_take rfl (sR_cell ghh15.1 ⟨by omega, by omega⟩) (by first | decide | (unfold sR; omega)) (by omega) (by omega) (fun hh21 ehh21 => ?_)
              have ghh21 : TQ h (bm) hh21 := by rw [ehh21]; exact ghh15.siz ⟨by omega, by omega⟩ (by decide) ⟨by omega, by omega⟩
              refine hd_iload pkX0_take rfl rfl ?_
              refine hd_aload pkX0_take rfl rfl (Int.natCast_nonneg _) ?_
              refine hd_iload pkX0_take rfl rfl ?_
              have sb61 : 0 ≤ ga hh21 161 8 ∧ ga hh21 161 8 ≤ 50 := by rw [ghh21.2.2.1 8 (by decide) (by decide) (by decide) (by decide)]; exact sb
              refine hd_callV pkX0_take rfl (q := (KX0_numberAt, yX0_numberAt, 0, 1, 0)) rfl rfl rfl (As := [(0, (i + iv))]) (rest := [(0, (i + iv))]) (c := 161) rfl rfl (Nat.le_of_ble_eq_true rfl) (st_cell ghh21.1 (k := 16) (n := 0) (by decide +kernel)).1 (st_cell ghh21.1 (k := 16) (n := 0) (by decide +kernel)).2.1 (h_X0_numberAt ⟨by omega, by omega⟩ sb61 ghh21.1) (hd_bI (fun n61 hc22 pn61 => ?_))
              obtain ⟨pn61, ehc22⟩ := pn61
              replace ehc22 := ehc22.symm
              subst ehc22
              rw [ghh21.nA] at pn61
              refine hd_ipush (z := 9) pkX0_take rfl ?_
              have cut67 : ∀ (l1 : Int), (l1 = ln0 h (i + iv) + 1) → (1 ≤ l1 ∧ l1 ≤ 3) → MW KX0_take Q 0 0 (pcA pgX0_take 67) [(0, (2, ((161 : Nat) : Int))), (1, (0, (i + iv)))] [(0, l1), (0, (i + iv))] hh21 := by
                intro l1 l1v l1b
                refine hd_iadd pkX0_take rfl (by omega) ?_
                refine hd_istore pkX0_take rfl rfl ?_
                change MW _ _ _ _ _ [(1, (0, ((i + iv) + l1))), (0, (2, ((161 : Nat) : Int)))] _ _
                refine hd_aload pkX0_take rfl rfl (Int.natCast_nonneg _) ?_
                refine hd_getR (n := 162) pkX0_take rfl (st_cell ghh21.1 (k := 16) (n := 0) (by decide +kernel)).1 (st_cell ghh21.1 (k := 16) (n := 0) (by decide +kernel)).2.1 (st_ref ghh21.1 (by decide +kernel)) ?_
                refine hd_aload pkX0_take rfl rfl (Int.natCast_nonneg _) ?_
                refine hd_getI pkX0_take rfl (st_cell ghh21.1 (k := 16) (n := 0) (by decide +kernel)).1 (st_cell ghh21.1 (k := 16) (n := 0) (by decide +kernel)).2.1 (fun v23 ev23 rv23 => ?_)
                have qv23 : bm = v23 := by rw [show v23 = ga hh21 161 0 from ev23]; exact ghh21.2.2.2.2.2.symm
                subst qv23
                refine hd_aldR (n := 3) pkX0_take rfl (st_cell ghh21.1 (c := 162) (k := 6) (n := 3) (by decide +kernel)) (Or.inl rfl) (by omega) (by omega) (fun v24 ev24 => ?_)
                rw [st_size ghh21.1 ⟨by omega, by omega⟩] at ev24
                subst v24
                refine hd_ipush (z := 1) pkX0_take rfl ?_
                refine hd_aload pkX0_take rfl rfl (Int.natCast_nonneg _) ?_
                refine hd_iload pkX0_take rfl rfl ?_
                have sb77 : 0 ≤ ga hh21 161 8 ∧ ga hh21 161 8 ≤ 50 := by rw [ghh21.2.2.1 8 (by decide) (by decide) (by decide) (by decide)]; exact sb
                refine hd_callV pkX0_take rfl (q := (KX0_numberAt, yX0_numberAt, 0, 1, 0)) rfl rfl rfl (As := [(0, ((i + iv) + l1))]) (rest := [(0, 1), (2, ((sR bm : Nat) : Int))]) (c := 161) rfl rfl (Nat.le_of_ble_eq_true rfl) (st_cell ghh21.1 (k := 16) (n := 0) (by decide +kernel)).1 (st_cell ghh21.1 (k := 16) (n := 0) (by decide +kernel)).2.1 (h_X0_numberAt ⟨by omega, by omega⟩ sb77 ghh21.1) (hd_bI (fun n77 hc25 pn77 => ?_))
                obtain ⟨pn77, ehc25⟩ := pn77
                replace ehc25 := ehc25.symm
                subst ehc25
                rw [ghh21.nA] at pn77
                have e2 : p20 h i = i + iv + l1 := by unfold p20; rw [e1, l1v]; omega
                have n2 : n77 ≠ 0 := by rw [pn77.1, ← e2]; exact okb.1.2
                refine hd_iast (n := 2) pkX0_take rfl (sR_cell ghh21.1 ⟨by omega, by omega⟩) (by first | decide | (unfold sR; omega)) (by omega) (by omega) (fun hh26 ehh26 => ?_)
                have ghh26 : TQ h (bm) hh26 := by rw [ehh26]; exact ghh21.siz ⟨by omega, by omega⟩ (by decide) ⟨by omega, by omega⟩
                refine hd_iload pkX0_take rfl rfl ?_
                refine hd_aload pkX0_take rfl rfl (Int.natCast_nonneg _) ?_
                refine hd_iload pkX0_take rfl rfl ?_
                have sb82 : 0 ≤ ga hh26 161 8 ∧ ga hh26 161 8 ≤ 50 := by rw [ghh26.2.2.1 8 (by decide) (by decide) (by decide) (by decide)]; exact sb
                refine hd_callV pkX0_take rfl (q := (KX0_numberAt, yX0_numberAt, 0, 1, 0)) rfl rfl rfl (As := [(0, ((i + iv) + l1))]) (rest := [(0, ((i + iv) + l1))]) (c := 161) rfl rfl (Nat.le_of_ble_eq_true rfl) (st_cell ghh26.1 (k := 16) (n := 0) (by decide +kernel)).1 (st_cell ghh26.1 (k := 16) (n := 0) (by decide +kernel)).2.1 (h_X0_numberAt ⟨by omega, by omega⟩ sb82 ghh26.1) (hd_bI (fun n82 hc27 pn82 => ?_))
                obtain ⟨pn82, ehc27⟩ := pn82
                replace ehc27 := ehc27.symm
                subst ehc27
                rw [ghh26.nA] at pn82
                refine hd_ipush (z := 9) pkX0_take rfl ?_
                have cut88 : ∀ (l2 : Int), (l2 = ln0 h (i + iv + l1) + 0) → (1 ≤ l2 ∧ l2 ≤ 3) → MW KX0_take Q 0 0 (pcA pgX0_take 88) [(0, (2, ((161 : Nat) : Int))), (1, (0, ((i + iv) + l1)))] [(0, l2), (0, ((i + iv) + l1))] hh26 := by
                  intro l2 l2v l2b
                  refine hd_iadd pkX0_take rfl (by omega) ?_
                  refine hd_istore pkX0_take rfl rfl ?_
                  change MW _ _ _ _ _ [(1, (0, (((i + iv) + l1) + l2))), (0, (2, ((161 : Nat) : Int)))] _ _
                  refine hd_aload pkX0_take rfl rfl (Int.natCast_nonneg _) ?_
                  refine hd_getR (n := 166) pkX0_take rfl (st_cell ghh26.1 (k := 16) (n := 0) (by decide +kernel)).1 (st_cell ghh26.1 (k := 16) (n := 0) (by decide +kernel)).2.1 (st_ref ghh26.1 (by decide +kernel)) ?_
                  refine hd_ipush (z := 2) pkX0_take rfl ?_
                  refine hd_aload pkX0_take rfl rfl (Int.natCast_nonneg _) ?_
                  refine hd_getI pkX0_take rfl (st_cell ghh26.1 (k := 16) (n := 0) (by decide +kernel)).1 (st_cell ghh26.1 (k := 16) (n := 0) (by decide +kernel)).2.1 (fun v28 ev28 rv28 => ?_)
                  have qv28 : bm = v28 := by rw [show v28 = ga hh26 161 0 from ev28]; exact ghh26.2.2.2.2.2.symm
                  subst qv28
                  refine hd_imul pkX0_take rfl (by omega) ?_
                  refine hd_ipush (z := 1) pkX0_take rfl ?_
                  refine hd_iadd pkX0_take rfl (by omega) ?_
                  refine hd_aload pkX0_take rfl rfl (Int.natCast_nonneg _) ?_
                  refine hd_iload pkX0_take rfl rfl ?_
                  have sb100 : 0 ≤ ga hh26 161 8 ∧ ga hh26 161 8 ≤ 50 := by rw [ghh26.2.2.1 8 (by decide) (by decide) (by decide) (by decide)]; exact sb
                  refine hd_callV pkX0_take rfl (q := (KX0_signAt, yX0_signAt, 0, 1, 0)) rfl rfl rfl (As := [(0, (((i + iv) + l1) + l2))]) (rest := [(0, ((2 * bm) + 1)), (2, ((166 : Nat) : Int))]) (c := 161) rfl rfl (Nat.le_of_ble_eq_true rfl) (st_cell ghh26.1 (k := 16) (n := 0) (by decide +kernel)).1 (st_cell ghh26.1 (k := 16) (n := 0) (by decide +kernel)).2.1 (h_X0_signAt sb100 ghh26.1) (hd_bI (fun x100 hc29 px100 => ?_))
                  obtain ⟨px100, ehc29⟩ := px100
                  replace ehc29 := ehc29.symm
                  subst ehc29
                  rw [ghh26.sg] at px100
                  refine hd_ipush (z := 104) pkX0_take rfl ?_
                  have cut106 : ∀ (h3 : Int), (h3 = hb0 h (i + iv + l1 + l2)) → (0 ≤ h3 ∧ h3 ≤ 1) → MW KX0_take Q 0 0 (pcA pgX0_take 106) [(0, (2, ((161 : Nat) : Int))), (1, (0, (((i + iv) + l1) + l2)))] [(0, h3), (0, ((2 * bm) + 1)), (2, ((166 : Nat) : Int))] hh26 := by
                    intro h3 h3v h3b
                    refine hd_zast (n := 6) pkX0_take rfl (st_cell ghh26.1 (c := 166) (k := 2) (n := 6) (by decide +kernel)) (by first | decide | (unfold sR; omega)) (by omega) (by omega) (by omega) (fun hh30 ehh30 => ?_)
                    have ghh30 : TQ h (bm) hh30 := by rw [ehh30]; exact ghh26.hin
                    have w106 : ga hh30 166 (2 * bm + 1) = h3 := by rw [ehh30, ga_sa _ _ _ (by omega) (by omega), if_pos rfl]
                    refine hd_iload pkX0_take rfl rfl ?_
                    refine hd_aload pkX0_take rfl rfl (Int.natCast_nonneg _) ?_
                    refine hd_getR (n := 166) pkX0_take rfl (st_cell ghh30.1 (k := 16) (n := 0) (by decide +kernel)).1 (st_cell ghh30.1 (k := 16) (n := 0) (by decide +kernel)).2.1 (st_ref ghh30.1 (by decide +kernel)) ?_
                    refine hd_ipush (z := 2) pkX0_take rfl ?_
                    refine hd_aload pkX0_take rfl rfl (Int.natCast_nonneg _) ?_
                    refine hd_getI pkX0_take rfl (st_cell ghh30.1 (k := 16) (n := 0) (by decide +kernel)).1 (st_cell ghh30.1 (k := 16) (n := 0) (by decide +kernel)).2.1 (fun v31 ev31 rv31 => ?_)
                    have qv31 : bm = v31 := by rw [show v31 = ga hh30 161 0 from ev31]; exact ghh30.2.2.2.2.2.symm
                    subst qv31
                    refine hd_imul pkX0_take rfl (by omega) ?_
                    refine hd_ipush (z := 1) pkX0_take rfl ?_
                    refine hd_iadd pkX0_take rfl (by omega) ?_
                    refine hd_zald (n := 6) pkX0_take rfl (st_cell ghh30.1 (c := 166) (k := 2) (n := 6) (by decide +kernel)) (by omega) (by omega) (fun v32 ev32 rv32 => ?_)
                    rw [w106] at ev32
                    have cut121 : ∀ (iv2 : Int), (iv2 = h3) → MW KX0_take Q 0 0 (pcA pgX0_take 121) [(0, (2, ((161 : Nat) : Int))), (1, (0, (((i + iv) + l1) + l2)))] [(0, iv2), (0, (((i + iv) + l1) + l2))] hh30 := by
                      intro iv2 iv2v
                      refine hd_iadd pkX0_take rfl (by omega) ?_
                      refine hd_istore pkX0_take rfl rfl ?_
                      change MW _ _ _ _ _ [(1, (0, ((((i + iv) + l1) + l2) + iv2))), (0, (2, ((161 : Nat) : Int)))] _ _
                      refine hd_aload pkX0_take rfl rfl (Int.natCast_nonneg _) ?_
                      refine hd_dup pkX0_take rfl rfl ?_
                      refine hd_getI pkX0_take rfl (st_cell ghh30.1 (k := 16) (n := 0) (by decide +kernel)).1 (st_cell ghh30.1 (k := 16) (n := 0) (by decide +kernel)).2.1 (fun v33 ev33 rv33 => ?_)
                      have qv33 : bm = v33 := by rw [show v33 = ga hh30 161 0 from ev33]; exact ghh30.2.2.2.2.2.symm
                      subst qv33
                      refine hd_ipush (z := 1) pkX0_take rfl ?_
                      refine hd_iadd pkX0_take rfl (by omega) ?_
                      refine hd_putI pkX0_take rfl (st_cell ghh30.1 (k := 16) (n := 0) (by decide +kernel)).1 (st_cell ghh30.1 (k := 16) (n := 0) (by decide +kernel)).2.1 (fun hh34 ehh34 => ?_)
                      replace ehh34 : hh34 = sa hh30 161 0 (bm + 1) := ehh34
                      have ghh34 : TQ h ((bm + 1)) hh34 := by rw [ehh34]; exact ghh30.beam
                      refine hd_aload pkX0_take rfl rfl (Int.natCast_nonneg _) ?_
                      refine hd_aload pkX0_take rfl rfl (Int.natCast_nonneg _) ?_
                      refine hd_getI pkX0_take rfl (st_cell ghh34.1 (k := 16) (n := 0) (by decide +kernel)).1 (st_cell ghh34.1 (k := 16) (n := 0) (by decide +kernel)).2.1 (fun v35 ev35 rv35 => ?_)
                      have qv35 : (bm + 1) = v35 := by rw [show v35 = ga hh34 161 0 from ev35]; exact ghh34.2.2.2.2.2.symm
                      subst qv35
                      refine hd_aload pkX0_take rfl rfl (Int.natCast_nonneg _) ?_
                      refine hd_iload pkX0_take rfl rfl ?_
                      have sb134 : 0 ≤ ga hh34 161 8 ∧ ga hh34 161 8 ≤ 50 := by rw [ghh34.2.2.1 8 (by decide) (by decide) (by decide) (by decide)]; exact sb
                      refine hd_callV pkX0_take rfl (q := (KX0_signAt, yX0_signAt, 0, 1, 0)) rfl rfl rfl (As := [(0, ((((i + iv) + l1) + l2) + iv2))]) (rest := [(0, (bm + 1)), (2, ((161 : Nat) : Int))]) (c := 161) rfl rfl (Nat.le_of_ble_eq_true rfl) (st_cell ghh34.1 (k := 16) (n := 0) (by decide +kernel)).1 (st_cell ghh34.1 (k := 16) (n := 0) (by decide +kernel)).2.1 (h_X0_signAt sb134 ghh34.1) (hd_bI (fun x134 hc36 px134 => ?_))
                      obtain ⟨px134, ehc36⟩ := px134
                      replace ehc36 := ehc36.symm
                      subst ehc36
                      rw [ghh34.sg] at px134
                      refine hd_callV pkX0_take rfl (q := (KX0_takeNode, yX0_takeNode, 0, 2, 0)) rfl rfl rfl (As := [(0, (bm + 1)), (0, x134)]) (rest := []) (c := 161) rfl rfl (Nat.le_of_ble_eq_true rfl) (st_cell ghh34.1 (k := 16) (n := 0) (by decide +kernel)).1 (st_cell ghh34.1 (k := 16) (n := 0) (by decide +kernel)).2.1 (h_X0_takeNode ⟨by omega, by omega⟩ ghh34.1) (hd_bV (fun hc37 p38 => ?_))
                      have ghc37 : TQ h ((bm + 1)) hc37 := ghh34.node p38.1 p38.2.1 p38.2.2
                      refine hd_iinc (z := 1) pkX0_take rfl rfl (by omega) rfl ?_
                      change MW _ _ _ _ _ [(1, (0, (((((i + iv) + l1) + l2) + iv2) + 1))), (0, (2, ((161 : Nat) : Int)))] _ _
                      refine hd_goto pkX0_take rfl ?_
                      refine m_sub [(0, (2, ((161 : Nat) : Int))), (1, (0, (((((i + iv) + l1) + l2) + iv2) + 1)))] (List.forall_mem_cons.mpr ⟨rfl, List.forall_mem_cons.mpr ⟨rfl, fun _ h => absurd h List.not_mem_nil⟩⟩) ?_
                      refine ih11  ((((((i + iv) + l1) + l2) + iv2) + 1)) (bm + 1) hc37 ghc37 ?_ ?_ ?_ ?_
                      · omega
                      · omega
                      · have e3 : p30 h i = i + iv + l1 + l2 := by unfold p30; rw [e2, l2v]; omega
                        have e4 : nx0 h i = i + iv + l1 + l2 + iv2 + 1 := by unfold nx0; rw [e3, iv2v, h3v]
                        rw [← e4]
                        exact okb.2
                      · omega
                    refine hd_if_eq pkX0_take rfl (fun c39 => ?_) (fun c39 => ?_)
                    · skip
                      refine hd_ipush (z := 0) pkX0_take rfl ?_
                      refine cut121 (0) ?_
                      · omega
                    · skip
                      refine hd_ipush (z := 1) pkX0_take rfl ?_
                      refine hd_goto pkX0_take rfl ?_
                      refine cut121 (1) ?_
                      · omega
                  refine hd_ic_ne pkX0_take rfl (fun c40 => ?_) (fun c40 => ?_)
                  · skip
                    refine hd_ipush (z := 0) pkX0_take rfl ?_
                    refine m_sub [(0, (2, ((161 : Nat) : Int))), (1, (0, (((i + iv) + l1) + l2)))] (List.forall_mem_cons.mpr ⟨rfl, List.forall_mem_cons.mpr ⟨rfl, fun _ h => absurd h List.not_mem_nil⟩⟩) ?_
                    refine cut106 (0) ?_ ?_
                    · unfold hb0
                      rw [← px100.1]
                      first
                        | (rw [if_pos (by omega)]; done)
                        | (rw [if_neg (by omega)]; done)
                        | (exfalso; omega)
                    · omega
                  · skip
                    refine hd_ipush (z := 1) pkX0_take rfl ?_
                    refine hd_goto pkX0_take rfl ?_
                    refine m_sub [(0, (2, ((161 : Nat) : Int))), (1, (0, (((i + iv) + l1) + l2)))] (List.forall_mem_cons.mpr ⟨rfl, List.forall_mem_cons.mpr ⟨rfl, fun _ h => absurd h List.not_mem_nil⟩⟩) ?_
                    refine cut106 (1) ?_ ?_
                    · unfold hb0
                      rw [← px100.1]
                      first
                        | (rw [if_pos (by omega)]; done)
                        | (rw [if_neg (by omega)]; done)
                        | (exfalso; omega)
                    · omega
                refine hd_ic_le pkX0_take rfl (fun c41 => ?_) (fun c41 => ?_)
                · skip
                  refine hd_ipush (z := 1) pkX0_take rfl ?_
                  refine m_sub [(0, (2, ((161 : Nat) : Int))), (1, (0, ((i + iv) + l1)))] (List.forall_mem_cons.mpr ⟨rfl, List.forall_mem_cons.mpr ⟨rfl, fun _ h => absurd h List.not_mem_nil⟩⟩) ?_
                  refine cut88 (1) ?_ ?_
                  · unfold ln0
                    rw [← pn82.1]
                    first
                      | (rw [if_pos (by omega)]; done)
                      | (rw [if_neg (by omega)]; done)
                      | (rw [if_pos (by omega)]; rfl)
                      | (rw [if_neg (by omega)]; rfl)
                      | (exfalso; omega)
                  · omega
                · skip
                  refine hd_ipush (z := 2) pkX0_take rfl ?_
                  refine hd_goto pkX0_take rfl ?_
                  refine m_sub [(0, (2, ((161 : Nat) : Int))), (1, (0, ((i + iv) + l1)))] (List.forall_mem_cons.mpr ⟨rfl, List.forall_mem_cons.mpr ⟨rfl, fun _ h => absurd h List.not_mem_nil⟩⟩) ?_
                  refine cut88 (2) ?_ ?_
                  · unfold ln0
                    rw [← pn82.1]
                    first
                      | (rw [if_pos (by omega)]; done)
                      | (rw [if_neg (by omega)]; done)
                      | (rw [if_pos (by omega)]; rfl)
                      | (rw [if_neg (by omega)]; rfl)
                      | (exfalso; omega)
                  · omega
              refine hd_ic_le pkX0_take rfl (fun c42 => ?_) (fun c42 => ?_)
              · skip
                refine hd_ipush (z := 2) pkX0_take rfl ?_
                refine m_sub [(0, (2, ((161 : Nat) : Int))), (1, (0, (i + iv)))] (List.forall_mem_cons.mpr ⟨rfl, List.forall_mem_cons.mpr ⟨rfl, fun _ h => absurd h List.not_mem_nil⟩⟩) ?_
                refine cut67 (2) ?_ ?_
                · unfold ln0
                  rw [← pn61.1]
                  first
                    | (rw [if_pos (by omega)]; done)
                    | (rw [if_neg (by omega)]; done)
                    | (rw [if_pos (by omega)]; rfl)
                    | (rw [if_neg (by omega)]; rfl)
                    | (exfalso; omega)
                · omega
              · skip
                refine hd_ipush (z := 3) pkX0_take rfl ?_
                refine hd_goto pkX0_take rfl ?_
                refine m_sub [(0, (2, ((161 : Nat) : Int))), (1, (0, (i + iv)))] (List.forall_mem_cons.mpr ⟨rfl, List.forall_mem_cons.mpr ⟨rfl, fun _ h => absurd h List.not_mem_nil⟩⟩) ?_
                refine cut67 (3) ?_ ?_
                · unfold ln0
                  rw [← pn61.1]
                  first
                    | (rw [if_pos (by omega)]; done)
                    | (rw [if_neg (by omega)]; done)
                    | (rw [if_pos (by omega)]; rfl)
                    | (rw [if_neg (by omega)]; rfl)
                    | (exfalso; omega)
                · omega
            refine hd_if_eq pkX0_take rfl (fun c43 => ?_) (fun c43 => ?_)
            · skip
              refine hd_ipush (z := 0) pkX0_take rfl ?_
              refine cut46 (0) ?_
              · omega
            · skip
              refine hd_ipush (z := 1) pkX0_take rfl ?_
              refine hd_goto pkX0_take rfl ?_
              refine cut46 (1) ?_
              · omega
          refine hd_ic_ne pkX0_take rfl (fun c44 => ?_) (fun c44 => ?_)
          · skip
            refine hd_ipush (z := 0) pkX0_take rfl ?_
            refine cut33 (0) ?_ ?_
            · unfold hb0
              rw [← px27.1]
              first
                | (rw [if_pos (by omega)]; done)
                | (rw [if_neg (by omega)]; done)
                | (exfalso; omega)
            · omega
          · skip
            refine hd_ipush (z := 1) pkX0_take rfl ?_
            refine hd_goto pkX0_take rfl ?_
            refine cut33 (1) ?_ ?_
            · unfold hb0
              rw [← px27.1]
              first
                | (rw [if_pos (by omega)]; done)
                | (rw [if_neg (by omega)]; done)
                | (exfalso; omega)
            · omega
  refine m_sub [(0, (2, ((161 : Nat) : Int))), (1, (0, 1))] (List.forall_mem_cons.mpr ⟨rfl, List.forall_mem_cons.mpr ⟨rfl, fun _ h => absurd h List.not_mem_nil⟩⟩) ?_
  refine lp11 (((3 : Int) - (0)) + 1).toNat (1) (0) hc3 ghc3 ?_ ?_ ?_ ?_
  · omega
  · omega
  · exact ok.1
  · omega
set_option maxRecDepth 20000 in
set_option maxHeartbeats 8000000 in
theorem h_X0_read {h : MH} (sb : 0 ≤ ga h 161 8 ∧ ga h 161 8 ≤ 50) (be : 1 ≤ ga h 161 0 ∧ ga h 161 0 ≤ 3) (ro : 0 ≤ ga h 161 6 ∧ ga h 161 6 ≤ 8) (sz : ∀ b : Int, 0 ≤ b → b < 3 → (1 ≤ ga h (sR b) 0 ∧ ga h (sR b) 0 ≤ 12) ∧ (1 ≤ ga h (sR b) 1 ∧ ga h (sR b) 1 ≤ 12)) (se : ∀ j : Int, 0 ≤ j → j < 4 → -1000 ≤ ga h 168 j ∧ ga h 168 j ≤ 1000) (g : StrZ zT h) : MCal KX0_read yX0_read 0 0 [(2, ((161 : Nat) : Int))] h (mRL fun v h' => StrZ zT h' ∧ Only tCs h h' ∧ (∀ j : Int, 0 ≤ j → j ≠ 0 → j ≠ 6 → j ≠ 8 → j ≠ 9 → ga h' 161 j = ga h 161 j) ∧ (∀ b : Int, 0 ≤ b → b < 3 → (1 ≤ ga h' (sR b) 0 ∧ ga h' (sR b) 0 ≤ 12) ∧ (1 ≤ ga h' (sR b) 1 ∧ ga h' (sR b) 1 ≤ 12)) ∧ (∀ j : Int, 0 ≤ j → j < 4 → -1000 ≤ ga h' 168 j ∧ ga h' 168 j ≤ 1000) ∧ (1 ≤ ga h' 161 0 ∧ ga h' 161 0 ≤ 3) ∧ (0 ≤ ga h' 161 6 ∧ ga h' 161 6 ≤ 8) ∧ ga h' 161 8 = 0) := by
  refine MCal.ofMW (Or.inl rfl) ⟨cp_X0, rfl⟩ (Nat.le_of_ble_eq_true rfl) ?_
  generalize eQ : (mRL fun v h' => StrZ zT h' ∧ Only tCs h h' ∧ (∀ j : Int, 0 ≤ j → j ≠ 0 → j ≠ 6 → j ≠ 8 → j ≠ 9 → ga h' 161 j = ga h 161 j) ∧ (∀ b : Int, 0 ≤ b → b < 3 → (1 ≤ ga h' (sR b) 0 ∧ ga h' (sR b) 0 ≤ 12) ∧ (1 ≤ ga h' (sR b) 1 ∧ ga h' (sR b) 1 ≤ 12)) ∧ (∀ j : Int, 0 ≤ j → j < 4 → -1000 ≤ ga h' 168 j ∧ ga h' 168 j ≤ 1000) ∧ (1 ≤ ga h' 161 0 ∧ ga h' 161 0 ≤ 3) ∧ (0 ≤ ga h' 161 6 ∧ ga h' 161 6 ≤ 8) ∧ ga h' 161 8 = 0 : MO → MH → Prop) = Q
  change MW KX0_read Q 0 0 (pcA pgX0_read 0) [(0, (2, ((161 : Nat) : Int)))] [] h
  refine hd_aload pkX0_read rfl rfl (Int.natCast_nonneg _) ?_
  refine hd_callV pkX0_read rfl (q := (KX0_wrongSign, yX0_wrongSign, 0, 0, 0)) rfl rfl rfl (As := []) (rest := []) (c := 161) rfl rfl (Nat.le_of_ble_eq_true rfl) (st_cell g (k := 16) (n := 0) (by decide +kernel)).1 (st_cell g (k := 16) (n := 0) (by decide +kernel)).2.1 (h_X0_wrongSign sb g) (hd_bI (fun w hc1 pw => ?_))
  obtain ⟨pw, ehc1⟩ := pw
  replace ehc1 := ehc1.symm
  subst ehc1
  refine hd_istore pkX0_read rfl rfl ?_
  change MW _ _ _ _ _ [(1, (0, w)), (0, (2, ((161 : Nat) : Int)))] _ _
  refine hd_iload pkX0_read rfl rfl ?_
  have cut7 : ∀ (_ : True) (hM : MH), StrZ zT hM → (Only tCs h hM) → (∀ j : Int, 0 ≤ j → j ≠ 0 → j ≠ 6 → j ≠ 9 → ga hM 161 j = ga h 161 j) → (∀ b : Int, 0 ≤ b → b < 3 → (1 ≤ ga hM (sR b) 0 ∧ ga hM (sR b) 0 ≤ 12) ∧ (1 ≤ ga hM (sR b) 1 ∧ ga hM (sR b) 1 ≤ 12)) → (∀ j : Int, 0 ≤ j → j < 4 → -1000 ≤ ga hM 168 j ∧ ga hM 168 j ≤ 1000) → (1 ≤ ga hM 161 0 ∧ ga hM 161 0 ≤ 3) → (0 ≤ ga hM 161 6 ∧ ga hM 161 6 ≤ 8) → MW KX0_read Q 0 0 (pcA pgX0_read 7) [(0, (2, ((161 : Nat) : Int))), (1, (0, w))] [] hM := by
    intro _ hM gc7 om fm zm em bmm rmm
    refine hd_aload pkX0_read rfl rfl (Int.natCast_nonneg _) ?_
    refine hd_ipush (z := 0) pkX0_read rfl ?_
    refine hd_putI pkX0_read rfl (st_cell gc7 (k := 16) (n := 0) (by decide +kernel)).1 (st_cell gc7 (k := 16) (n := 0) (by decide +kernel)).2.1 (fun hh2 ehh2 => ?_)
    replace ehh2 : hh2 = sa hM 161 8 0 := ehh2
    have ghh2 : StrZ zT hh2 := by rw [ehh2]; exact st_fld gc7 (by decide +kernel)
    have oR : Only tCs h hh2 := by rw [ehh2]; exact om.set (mem_tCs.mpr (Or.inl rfl))
    have u9 : ∀ j : Int, 0 ≤ j → j ≠ 8 → ga hh2 161 j = ga hM 161 j := fun j a b => by rw [ehh2, ga_sa _ _ _ (by decide) a, if_neg b]
    have v9 : ga hh2 161 8 = 0 := by rw [ehh2, ga_sa _ _ _ (by decide) (by decide), if_pos rfl]
    have u1 : Only [161] hM hh2 := by rw [ehh2]; exact (Only.refl _ _).set List.mem_cons_self
    refine hd_iload pkX0_read rfl rfl ?_
    refine hd_if_ge pkX0_read rfl (fun c3 => ?_) (fun c3 => ?_)
    · skip
      refine hd_ipush (z := (-1)) pkX0_read rfl ?_
      refine hd_iload pkX0_read rfl rfl ?_
      refine hd_isub pkX0_read rfl (by omega) ?_
      refine hd_i2l pkX0_read rfl ?_
      refine hd_lret pkX0_read rfl ?_
      subst eQ
      refine ⟨rfl, rfl, ghh2, oR, fun j a b c d e => (u9 j a d).trans (fm j a b c e), fun b b0 b1 => ?_, fun j a b => by rw [u1.ga (by decide)]; exact em j a b, by rw [u9 0 (by decide) (by decide)]; exact bmm, by rw [u9 6 (by decide) (by decide)]; exact rmm, v9⟩
      have sb9 := sR_b (b := b) ⟨b0, b1⟩
      have n9 : sR b ∉ [161] := fun w => by rw [List.mem_singleton] at w; omega
      rw [u1.ga n9, u1.ga n9]
      exact zm b b0 b1
    · skip
      refine hd_aload pkX0_read rfl rfl (Int.natCast_nonneg _) ?_
      refine hd_getI pkX0_read rfl (st_cell ghh2 (k := 16) (n := 0) (by decide +kernel)).1 (st_cell ghh2 (k := 16) (n := 0) (by decide +kernel)).2.1 (fun v4 ev4 rv4 => ?_)
      replace ev4 : v4 = ga hh2 161 0 := ev4
      refine hd_i2l pkX0_read rfl ?_
      refine hd_goto pkX0_read rfl ?_
      refine hd_lret pkX0_read rfl ?_
      subst eQ
      refine ⟨rfl, rfl, ghh2, oR, fun j a b c d e => (u9 j a d).trans (fm j a b c e), fun b b0 b1 => ?_, fun j a b => by rw [u1.ga (by decide)]; exact em j a b, by rw [u9 0 (by decide) (by decide)]; exact bmm, by rw [u9 6 (by decide) (by decide)]; exact rmm, v9⟩
      have sb9 := sR_b (b := b) ⟨b0, b1⟩
      have n9 : sR b ∉ [161] := fun w => by rw [List.mem_singleton] at w; omega
      rw [u1.ga n9, u1.ga n9]
      exact zm b b0 b1
  refine hd_if_ge pkX0_read rfl (fun c5 => ?_) (fun c5 => ?_)
  · skip
    refine m_sub [(0, (2, ((161 : Nat) : Int))), (1, (0, w))] (List.forall_mem_cons.mpr ⟨rfl, List.forall_mem_cons.mpr ⟨rfl, fun _ h => absurd h List.not_mem_nil⟩⟩) ?_
    refine cut7 trivial h g ?_ ?_ ?_ ?_ ?_ ?_
    · first | exact oT | exact Only.refl _ _
    · first | exact fT | exact fun _ _ _ _ _ => rfl
    · first | exact zT2 | exact sz
    · first | exact eT | exact se
    · first | exact bT | exact be
    · first | exact rT | exact ro
  · skip
    refine hd_aload pkX0_read rfl rfl (Int.natCast_nonneg _) ?_
    refine hd_callV pkX0_read rfl (q := (KX0_take, yX0_take, 0, 0, 0)) rfl rfl rfl (As := []) (rest := []) (c := 161) rfl rfl (Nat.le_of_ble_eq_true rfl) (st_cell g (k := 16) (n := 0) (by decide +kernel)).1 (st_cell g (k := 16) (n := 0) (by decide +kernel)).2.1 (h_X0_take sb (pw.2 (by omega)) sz se g) (hd_bV (fun hc6 pt => ?_))
    obtain ⟨bm, bmb, tq, r6⟩ := pt
    have ghc6 := tq.1
    have oT := tq.2.1
    have fT := tq.2.2.1
    have zT2 := tq.2.2.2.1
    have eT := tq.2.2.2.2.1
    have bT : 1 ≤ ga hc6 161 0 ∧ ga hc6 161 0 ≤ 3 := by rw [tq.2.2.2.2.2]; exact bmb
    have rT : 0 ≤ ga hc6 161 6 ∧ ga hc6 161 6 ≤ 8 := by omega
    refine m_sub [(0, (2, ((161 : Nat) : Int))), (1, (0, w))] (List.forall_mem_cons.mpr ⟨rfl, List.forall_mem_cons.mpr ⟨rfl, fun _ h => absurd h List.not_mem_nil⟩⟩) ?_
    refine cut7 trivial hc6 ghc6 ?_ ?_ ?_ ?_ ?_ ?_
    · first | exact oT | exact Only.refl _ _
    · first | exact fT | exact fun _ _ _ _ _ => rfl
    · first | exact zT2 | exact sz
    · first | exact eT | exact se
    · first | exact bT | exact be
    · first | exact rT | exact ro
