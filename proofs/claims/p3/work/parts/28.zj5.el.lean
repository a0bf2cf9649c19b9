/-! X0 by hand: eliminate -/
theorem if_cg {α : Type} {p q : Prop} [Decidable p] [Decidable q] {a b : α} (e : p ↔ q) : (if p then a else b) = if q then a else b := by
  by_cases h : p
  · rw [if_pos h, if_pos (e.mp h)]
  · rw [if_neg h, if_neg (fun w => h (e.mpr w))]
set_option maxRecDepth 20000 in
set_option maxHeartbeats 8000000 in
theorem h_X0_eliminate {h : MH} {n r p D : Int} {V W : Int → Int → Int} (n8 : 0 ≤ n ∧ n ≤ 8) (r0 : 0 ≤ r ∧ r < n) (p0 : 0 ≤ p ∧ p < n) (rnp : r ≠ p) (D0 : D ≠ 0) (bV : ∀ x c : Int, 0 ≤ x → x < n → 0 ≤ c → c < 2 * n → (V x c).natAbs < 1073741824 ^ 12) (bW : ∀ c : Int, 0 ≤ c → c < 2 * n → (W r c).natAbs < 1073741824 ^ 12) (eW : ∀ c : Int, 0 ≤ c → c < 2 * n → D * W r c = V r c * V p p - V r p * V p c) (ev : EV n V h) (b0 : BV1 h 491 160 D) (g : ES n h) : MCal KX0_eliminate yX0_eliminate 0 0 [(2, ((161 : Nat) : Int)), (0, r), (0, p)] h (mRV fun h' => Only eCs h h' ∧ ES n h' ∧ EV n (fun x c => if x = r then W x c else V x c) h' ∧ BV1 h' 491 160 D) := by
  refine MCal.ofMW (Or.inl rfl) ⟨cp_X0, rfl⟩ (Nat.le_of_ble_eq_true rfl) ?_
  generalize eQ : (mRV fun h' => Only eCs h h' ∧ ES n h' ∧ EV n (fun x c => if x = r then W x c else V x c) h' ∧ BV1 h' 491 160 D : MO → MH → Prop) = Q
  change MW KX0_eliminate Q 0 0 (pcA pgX0_eliminate 0) [(0, (2, ((161 : Nat) : Int))), (1, (0, r)), (2, (0, p))] [] h
  refine hd_locI (i := 1) rfl (fun rr => ?_)
  refine hd_locI (i := 2) rfl (fun rp => ?_)
  refine hd_aload pkX0_eliminate rfl rfl (Int.natCast_nonneg _) ?_
  refine hd_getR (n := 193) pkX0_eliminate rfl (g.1.1.1) (g.1.1.2.1) (g.1.1.2.2.2.1) ?_
  refine hd_ipush (z := 1) pkX0_eliminate rfl ?_
  refine hd_aid pkX0_eliminate rfl g 1 493 (by decide) rfl ?_
  refine hd_aload pkX0_eliminate rfl rfl (Int.natCast_nonneg _) ?_
  refine hd_iload pkX0_eliminate rfl rfl ?_
  refine hd_iload pkX0_eliminate rfl rfl ?_
  refine hd_callV pkX0_eliminate rfl (q := (KX0_cell, yX0_cell, 0, 2, 0)) rfl rfl rfl (As := [(0, r), (0, p)]) (rest := [(2, ((493 : Nat) : Int))]) (c := 161) rfl rfl (Nat.le_of_ble_eq_true rfl) (g.1.1.1) (g.1.1.2.1) (h_X0_cell ⟨by omega, by omega⟩ ⟨by omega, by omega⟩ g.1) (hd_bR (fun v1 hc3 p2 => ?_))
  obtain ⟨p2, ehc3⟩ := p2
  replace ehc3 := ehc3.symm
  subst ehc3
  subst p2
  refine hd_callV pkX0_eliminate rfl (q := (KX1_copy, yX1_copy, 1, 1, 0)) rfl rfl rfl (As := [(2, ((eC r p : Nat) : Int))]) (rest := []) (c := 493) rfl rfl (Nat.le_of_ble_eq_true rfl) ((g.ob (W := 160) (aE 1 (by decide) rfl)).1.1) ((g.ob (W := 160) (aE 1 (by decide) rfl)).1.2.1) (e_copy (V := V r p) g (aE 1 (by decide) rfl) (eC_E ⟨by omega, by omega⟩ ⟨by omega, by omega⟩) (by have := eC_b (r := r) (c := p) ⟨by omega, by omega⟩ ⟨by omega, by omega⟩; omega) (ev r p r0.1 r0.2 p0.1 (by omega)) (by have := (ev r p r0.1 r0.2 p0.1 (by omega)).1; omega)) (hd_bV (fun hc4 p1 => ?_))
  have ghc4 : ES n hc4 := p1.2.1
  have o1 : Only eCs h hc4 := only_e2 (aE 1 (by decide) rfl) p1.1
  have b01 : BV1 hc4 491 160 D := b0.o2 p1.1 (by decide)
  have ev1 : EV n V hc4 := ev.ol n8.2 p1.1 (by decide)
  refine hd_ipush (z := 0) pkX0_eliminate rfl ?_
  refine hd_istore pkX0_eliminate rfl rfl ?_
  change MW _ _ _ _ _ [(3, (0, 0)), (0, (2, ((161 : Nat) : Int))), (1, (0, r)), (2, (0, p))] _ _
  have lp11 : ∀ (N11 : Nat) (c : Int) (hK : MH), ES n hK → (Only eCs h hK) → (0 ≤ c ∧ c ≤ 2 * n) → (EV n (fun x y => if x = r ∧ y < c then W x y else V x y) hK) → (BV1 hK 491 160 D) → (BV1 hK 493 160 (V r p)) → (ga hK 493 1 ≤ 12) → 2 * n - c < (N11 : Int) → MW KX0_eliminate Q 0 0 (pcA pgX0_eliminate 11) [(0, (2, ((161 : Nat) : Int))), (1, (0, r)), (2, (0, p)), (3, (0, c))] [] hK := by
    intro N11
    induction N11 with
    | zero => intro c hK g11 ok9 k0 ev9 b09 b1 l1 hm11; exfalso; omega
    | succ N11 ih11 =>
      intro c hK g11 ok9 k0 ev9 b09 b1 l1 hm11
      refine hd_iload pkX0_eliminate rfl rfl ?_
      refine hd_ipush (z := 2) pkX0_eliminate rfl ?_
      refine hd_aload pkX0_eliminate rfl rfl (Int.natCast_nonneg _) ?_
      refine hd_getI pkX0_eliminate rfl (g11.1.1.1) (g11.1.1.2.1) (fun v5 ev5 rv5 => ?_)
      replace ev5 : v5 = ga hK (161) 12 := ev5
      have qv5 : v5 = n := ev5.trans g11.1.1.2.2.2.2
      subst v5
      refine hd_imul pkX0_eliminate rfl (by omega) ?_
      refine hd_ic_ge pkX0_eliminate rfl (fun c6 => ?_) (fun c6 => ?_)
      · skip
        refine hd_vret pkX0_eliminate rfl ?_
        subst eQ
        have ec : c = 2 * n := by omega
        refine ⟨rfl, ok9, g11, fun x y x0 x1 y0 y1 => ?_, b09⟩
        have b := ev9 x y x0 x1 y0 y1
        dsimp only at b ⊢
        by_cases q : x = r
        · rw [if_pos ⟨q, by omega⟩] at b
          rw [if_pos q]
          exact b
        · rw [if_neg (fun w => q w.1)] at b
          rw [if_neg q]
          exact b
      · skip
        have bpc : BV1 hK (eC p c) 12 (V p c) := by have w := ev9 p c p0.1 p0.2 k0.1 (by omega); dsimp only at w; rw [if_neg (by omega)] at w; exact w
        have brc : BV1 hK (eC r c) 12 (V r c) := by have w := ev9 r c r0.1 r0.2 k0.1 (by omega); dsimp only at w; rw [if_neg (by omega)] at w; exact w
        have bpp : BV1 hK (eC p p) 12 (V p p) := by have w := ev9 p p p0.1 p0.2 p0.1 (by omega); dsimp only at w; rw [if_neg (by omega)] at w; exact w
        have mpc : isE (eC p c) 12 := eC_E ⟨by omega, by omega⟩ ⟨by omega, by omega⟩
        have mrc : isE (eC r c) 12 := eC_E ⟨by omega, by omega⟩ ⟨by omega, by omega⟩
        have mpp : isE (eC p p) 12 := eC_E ⟨by omega, by omega⟩ ⟨by omega, by omega⟩
        have xpc := eC_b (r := p) (c := c) ⟨by omega, by omega⟩ ⟨by omega, by omega⟩
        have xrc := eC_b (r := r) (c := c) ⟨by omega, by omega⟩ ⟨by omega, by omega⟩
        have xpp := eC_b (r := p) (c := p) ⟨by omega, by omega⟩ ⟨by omega, by omega⟩
        refine hd_aload pkX0_eliminate rfl rfl (Int.natCast_nonneg _) ?_
        refine hd_iload pkX0_eliminate rfl rfl ?_
        refine hd_iload pkX0_eliminate rfl rfl ?_
        refine hd_callV pkX0_eliminate rfl (q := (KX0_cell, yX0_cell, 0, 2, 0)) rfl rfl rfl (As := [(0, r), (0, c)]) (rest := []) (c := 161) rfl rfl (Nat.le_of_ble_eq_true rfl) (g11.1.1.1) (g11.1.1.2.1) (h_X0_cell ⟨by omega, by omega⟩ ⟨by omega, by omega⟩ g11.1) (hd_bR (fun v7 hc9 p8 => ?_))
        obtain ⟨p8, ehc9⟩ := p8
        replace ehc9 := ehc9.symm
        subst ehc9
        subst p8
        refine hd_astore pkX0_eliminate rfl (Int.natCast_nonneg _) rfl ?_
        change MW _ _ _ _ _ [(4, (2, ((eC r c : Nat) : Int))), (0, (2, ((161 : Nat) : Int))), (1, (0, r)), (2, (0, p)), (3, (0, c))] _ _
        refine hd_aload pkX0_eliminate rfl rfl (Int.natCast_nonneg _) ?_
        refine hd_getR (n := 193) pkX0_eliminate rfl (g11.1.1.1) (g11.1.1.2.1) (g11.1.1.2.2.2.1) ?_
        refine hd_ipush (z := 1) pkX0_eliminate rfl ?_
        refine hd_aid pkX0_eliminate rfl g11 1 493 (by decide) rfl ?_
        have cut37 : ∀ (ot : Int), ((ot = 1 ∧ V r p ≠ 0 ∧ V p c ≠ 0) ∨ (ot = 0 ∧ (V r p = 0 ∨ V p c = 0))) → MW KX0_eliminate Q 0 0 (pcA pgX0_eliminate 37) [(0, (2, ((161 : Nat) : Int))), (1, (0, r)), (2, (0, p)), (3, (0, c)), (4, (2, ((eC r c : Nat) : Int)))] [(0, ot)] hK := by
          intro ot otv
          refine hd_istore pkX0_eliminate rfl rfl ?_
          change MW _ _ _ _ _ [(5, (0, ot)), (0, (2, ((161 : Nat) : Int))), (1, (0, r)), (2, (0, p)), (3, (0, c)), (4, (2, ((eC r c : Nat) : Int)))] _ _
          refine hd_aload pkX0_eliminate rfl rfl (Int.natCast_nonneg _) ?_
          refine hd_getI pkX0_eliminate rfl ((g11.ob (W := 12) (eC_E ⟨by omega, by omega⟩ ⟨by omega, by omega⟩)).1.1) ((g11.ob (W := 12) (eC_E ⟨by omega, by omega⟩ ⟨by omega, by omega⟩)).1.2.1) (fun v10 ev10 rv10 => ?_)
          replace ev10 : v10 = ga hK (eC r c) 2 := ev10
          have s3 : v10 = (V r c).sign := ev10.trans brc.2.2.2.1
          have z3 : v10 = 0 ↔ V r c = 0 := by rw [s3]; exact bv_sign
          refine hd_if_ne pkX0_eliminate rfl (fun c11 => ?_) (fun c11 => ?_)
          · skip
            refine hd_aload pkX0_eliminate rfl rfl (Int.natCast_nonneg _) ?_
            refine hd_getR (n := 193) pkX0_eliminate rfl (g11.1.1.1) (g11.1.1.2.1) (g11.1.1.2.2.2.1) ?_
            refine hd_ipush (z := 2) pkX0_eliminate rfl ?_
            refine hd_aid pkX0_eliminate rfl g11 2 495 (by decide) rfl ?_
            refine hd_aload pkX0_eliminate rfl rfl (Int.natCast_nonneg _) ?_
            refine hd_aload pkX0_eliminate rfl rfl (Int.natCast_nonneg _) ?_
            refine hd_iload pkX0_eliminate rfl rfl ?_
            refine hd_iload pkX0_eliminate rfl rfl ?_
            refine hd_callV pkX0_eliminate rfl (q := (KX0_cell, yX0_cell, 0, 2, 0)) rfl rfl rfl (As := [(0, p), (0, p)]) (rest := [(2, ((eC r c : Nat) : Int)), (2, ((495 : Nat) : Int))]) (c := 161) rfl rfl (Nat.le_of_ble_eq_true rfl) (g11.1.1.1) (g11.1.1.2.1) (h_X0_cell ⟨by omega, by omega⟩ ⟨by omega, by omega⟩ g11.1) (hd_bR (fun v12 hc14 p13 => ?_))
            obtain ⟨p13, ehc14⟩ := p13
            replace ehc14 := ehc14.symm
            subst ehc14
            subst p13
            refine hd_callV pkX0_eliminate rfl (q := (KX1_product_, yX1_product_, 1, 2, 0)) rfl rfl rfl (As := [(2, ((eC r c : Nat) : Int)), (2, ((eC p p : Nat) : Int))]) (rest := []) (c := 495) rfl rfl (Nat.le_of_ble_eq_true rfl) ((g11.ob (W := 160) (aE 2 (by decide) rfl)).1.1) ((g11.ob (W := 160) (aE 2 (by decide) rfl)).1.2.1) (e_product (Va := V r c) (Vb := V p p) g11 (aE 2 (by decide) rfl) mrc mpp (by omega) (by omega) brc bpp (by have := brc.1; have := bpp.1; omega)) (hd_bV (fun hc15 pA => ?_))
            have ghc15 : ES n hc15 := pA.2.1
            have oX : Only [495, 496, 497, 498] hK hc15 := pA.1.mono (by decide)
            have bX := pA.2.2
            have lX : ga hc15 495 1 ≤ ((24 : Nat) : Int) := bX.len (by decide) (nat_mul_b (k := 12) (m := 12) (bV r c r0.1 r0.2 k0.1 (by omega)) (bV p p p0.1 p0.2 p0.1 (by omega)))
            refine hd_iload pkX0_eliminate rfl rfl ?_
            have cut79 : ∀ (_ : True) (hS : MH), ES n hS → (Only [495, 496, 497, 498] hK hS) → (BV1 hS 495 160 (V r c * V p p - V r p * V p c)) → MW KX0_eliminate Q 0 0 (pcA pgX0_eliminate 79) [(0, (2, ((161 : Nat) : Int))), (1, (0, r)), (2, (0, p)), (3, (0, c)), (4, (2, ((eC r c : Nat) : Int))), (5, (0, ot))] [] hS := by
              intro _ hS gc79 oS bS
              refine hd_aload pkX0_eliminate rfl rfl (Int.natCast_nonneg _) ?_
              refine hd_getR (n := 193) pkX0_eliminate rfl (gc79.1.1.1) (gc79.1.1.2.1) (gc79.1.1.2.2.2.1) ?_
              refine hd_ipush (z := 2) pkX0_eliminate rfl ?_
              refine hd_aid pkX0_eliminate rfl gc79 2 495 (by decide) rfl ?_
              refine hd_aload pkX0_eliminate rfl rfl (Int.natCast_nonneg _) ?_
              refine hd_getR (n := 193) pkX0_eliminate rfl (gc79.1.1.1) (gc79.1.1.2.1) (gc79.1.1.2.2.2.1) ?_
              refine hd_ipush (z := 0) pkX0_eliminate rfl ?_
              refine hd_aid pkX0_eliminate rfl gc79 0 491 (by decide) rfl ?_
              refine hd_aload pkX0_eliminate rfl rfl (Int.natCast_nonneg _) ?_
              refine hd_getR (n := 193) pkX0_eliminate rfl (gc79.1.1.1) (gc79.1.1.2.1) (gc79.1.1.2.2.2.1) ?_
              refine hd_ipush (z := 4) pkX0_eliminate rfl ?_
              refine hd_aid pkX0_eliminate rfl gc79 4 499 (by decide) rfl ?_
              refine hd_aload pkX0_eliminate rfl rfl (Int.natCast_nonneg _) ?_
              refine hd_getR (n := 193) pkX0_eliminate rfl (gc79.1.1.1) (gc79.1.1.2.1) (gc79.1.1.2.2.2.1) ?_
              refine hd_ipush (z := 5) pkX0_eliminate rfl ?_
              refine hd_aid pkX0_eliminate rfl gc79 5 501 (by decide) rfl ?_
              refine hd_callV pkX0_eliminate rfl (q := (KX1_divide, yX1_divide, 1, 3, 0)) rfl rfl rfl (As := [(2, ((491 : Nat) : Int)), (2, ((499 : Nat) : Int)), (2, ((501 : Nat) : Int))]) (rest := []) (c := 495) rfl rfl (Nat.le_of_ble_eq_true rfl) ((gc79.ob (W := 160) (aE 2 (by decide) rfl)).1.1) ((gc79.ob (W := 160) (aE 2 (by decide) rfl)).1.2.1) (e_div gc79 bS (b09.ol oS (by decide) (by decide)) (z := W r c) (eW c k0.1 (by omega)).symm D0 (by have := bS.len (k := 25) (by decide) (nat_sub_b (k := 24) (nat_mul_b (k := 12) (m := 12) (bV r c r0.1 r0.2 k0.1 (by omega)) (bV p p p0.1 p0.2 p0.1 (by omega))) (nat_mul_b (k := 12) (m := 12) (bV r p r0.1 r0.2 p0.1 (by omega)) (bV p c p0.1 p0.2 k0.1 (by omega)))); omega)) (hd_bV (fun hc16 pD => ?_))
              have ghc16 : ES n hc16 := pD.2.1
              have oD : Only [495, 496, 497, 498, 499, 500, 501, 502] hK hc16 := (oS.mono (by decide)).trans (pD.1.mono (by decide))
              have bD := pD.2.2
              have lD : ga hc16 499 1 ≤ ((12 : Nat) : Int) := bD.len (by decide) (bW c k0.1 (by omega))
              refine hd_aload pkX0_eliminate rfl rfl (Int.natCast_nonneg _) ?_
              refine hd_aload pkX0_eliminate rfl rfl (Int.natCast_nonneg _) ?_
              refine hd_getR (n := 193) pkX0_eliminate rfl (ghc16.1.1.1) (ghc16.1.1.2.1) (ghc16.1.1.2.2.2.1) ?_
              refine hd_ipush (z := 4) pkX0_eliminate rfl ?_
              refine hd_aid pkX0_eliminate rfl ghc16 4 499 (by decide) rfl ?_
              refine hd_callV pkX0_eliminate rfl (q := (KX1_copy, yX1_copy, 1, 1, 0)) rfl rfl rfl (As := [(2, ((499 : Nat) : Int))]) (rest := []) (c := eC r c) rfl rfl (Nat.le_of_ble_eq_true rfl) ((ghc16.ob (W := 12) (eC_E ⟨by omega, by omega⟩ ⟨by omega, by omega⟩)).1.1) ((ghc16.ob (W := 12) (eC_E ⟨by omega, by omega⟩ ⟨by omega, by omega⟩)).1.2.1) (e_copy ghc16 mrc (aE 4 (by decide) rfl) (by omega) bD lD) (hd_bV (fun hc17 pE => ?_))
              have ghc17 : ES n hc17 := pE.2.1
              have oE : Only eCs h hc17 := ok9.trans ((only_eCs oD (by decide)).trans (only_e2 mrc pE.1))
              have b0E : BV1 hc17 491 160 D := (b09.ol oD (by decide) (by decide)).o2 pE.1 (by omega)
              have b1E : BV1 hc17 493 160 (V r p) := (b1.ol oD (by decide) (by decide)).o2 pE.1 (by omega)
              have l1E : ga hc17 493 1 ≤ 12 := by rw [pE.1.ga (by simp only [List.mem_cons, List.not_mem_nil, or_false, not_or]; omega), oD.ga (by decide)]; exact l1
              have evE : EV n (fun x y => if x = r ∧ y < c + 1 then W x y else V x y) hc17 := (ev9.ol n8.2 oD (by decide)).put n8.2 r0 ⟨k0.1, by omega⟩ pE.1 (by rw [if_pos (by omega)]; exact pE.2.2) (fun x y w => if_cg (by omega))
              refine hd_iinc (z := 1) pkX0_eliminate rfl rfl (by omega) rfl ?_
              change MW _ _ _ _ _ [(3, (0, (c + 1))), (0, (2, ((161 : Nat) : Int))), (1, (0, r)), (2, (0, p)), (4, (2, ((eC r c : Nat) : Int))), (5, (0, ot))] _ _
              refine hd_goto pkX0_eliminate rfl ?_
              refine m_sub [(0, (2, ((161 : Nat) : Int))), (1, (0, r)), (2, (0, p)), (3, (0, (c + 1)))] (List.forall_mem_cons.mpr ⟨rfl, List.forall_mem_cons.mpr ⟨rfl, List.forall_mem_cons.mpr ⟨rfl, List.forall_mem_cons.mpr ⟨rfl, fun _ h => absurd h List.not_mem_nil⟩⟩⟩⟩) ?_
              refine ih11  ((c + 1)) hc17 ghc17 ?_ ?_ ?_ ?_ ?_ ?_ ?_
              · first | exact oE | exact ok9
              · omega
              · first | exact evE | exact evN
              · first | exact b0E | exact b09
              · first | exact b1E | exact b1
              · first | exact l1E | exact l1
              · omega
            refine hd_if_eq pkX0_eliminate rfl (fun c18 => ?_) (fun c18 => ?_)
            · skip
              refine m_sub [(0, (2, ((161 : Nat) : Int))), (1, (0, r)), (2, (0, p)), (3, (0, c)), (4, (2, ((eC r c : Nat) : Int))), (5, (0, ot))] (List.forall_mem_cons.mpr ⟨rfl, List.forall_mem_cons.mpr ⟨rfl, List.forall_mem_cons.mpr ⟨rfl, List.forall_mem_cons.mpr ⟨rfl, List.forall_mem_cons.mpr ⟨rfl, List.forall_mem_cons.mpr ⟨rfl, fun _ h => absurd h List.not_mem_nil⟩⟩⟩⟩⟩⟩) ?_
              refine cut79 trivial hc15 ghc15 ?_ ?_
              · first | exact oY | exact oX
              · first
                  | exact bY
                  | rw [show V r p * V p c = 0 by rcases (show V r p = 0 ∨ V p c = 0 by omega) with w | w <;> rw [w] <;> simp]
                    rw [Int.sub_zero]
                    exact bX
            · skip
              refine hd_aload pkX0_eliminate rfl rfl (Int.natCast_nonneg _) ?_
              refine hd_getR (n := 193) pkX0_eliminate rfl (ghc15.1.1.1) (ghc15.1.1.2.1) (ghc15.1.1.2.2.2.1) ?_
              refine hd_ipush (z := 3) pkX0_eliminate rfl ?_
              refine hd_aid pkX0_eliminate rfl ghc15 3 497 (by decide) rfl ?_
              refine hd_aload pkX0_eliminate rfl rfl (Int.natCast_nonneg _) ?_
              refine hd_getR (n := 193) pkX0_eliminate rfl (ghc15.1.1.1) (ghc15.1.1.2.1) (ghc15.1.1.2.2.2.1) ?_
              refine hd_ipush (z := 1) pkX0_eliminate rfl ?_
              refine hd_aid pkX0_eliminate rfl ghc15 1 493 (by decide) rfl ?_
              refine hd_aload pkX0_eliminate rfl rfl (Int.natCast_nonneg _) ?_
              refine hd_iload pkX0_eliminate rfl rfl ?_
              refine hd_iload pkX0_eliminate rfl rfl ?_
              refine hd_callV pkX0_eliminate rfl (q := (KX0_cell, yX0_cell, 0, 2, 0)) rfl rfl rfl (As := [(0, p), (0, c)]) (rest := [(2, ((493 : Nat) : Int)), (2, ((497 : Nat) : Int))]) (c := 161) rfl rfl (Nat.le_of_ble_eq_true rfl) (ghc15.1.1.1) (ghc15.1.1.2.1) (h_X0_cell ⟨by omega, by omega⟩ ⟨by omega, by omega⟩ ghc15.1) (hd_bR (fun v19 hc21 p20 => ?_))
              obtain ⟨p20, ehc21⟩ := p20
              replace ehc21 := ehc21.symm
              subst ehc21
              subst p20
              refine hd_callV pkX0_eliminate rfl (q := (KX1_product_, yX1_product_, 1, 2, 0)) rfl rfl rfl (As := [(2, ((493 : Nat) : Int)), (2, ((eC p c : Nat) : Int))]) (rest := []) (c := 497) rfl rfl (Nat.le_of_ble_eq_true rfl) ((ghc15.ob (W := 160) (aE 3 (by decide) rfl)).1.1) ((ghc15.ob (W := 160) (aE 3 (by decide) rfl)).1.2.1) (e_product (Va := V r p) (Vb := V p c) ghc15 (aE 3 (by decide) rfl) (aE 1 (by decide) rfl) mpc (by decide) (by omega) (b1.ol oX (by decide) (by decide)) (bpc.ol oX (by simp only [List.mem_cons, List.not_mem_nil, or_false]; omega) (by simp only [List.mem_cons, List.not_mem_nil, or_false]; omega)) (by rw [oX.ga (by decide), oX.ga (by simp only [List.mem_cons, List.not_mem_nil, or_false]; omega)]; have := bpc.1; omega)) (hd_bV (fun hc22 pB => ?_))
              have ghc22 : ES n hc22 := pB.2.1
              have bX2 : BV1 hc22 495 160 (V r c * V p p) := bX.o2 pB.1 (by decide)
              have oX2 : Only [495, 496, 497, 498] hK hc22 := oX.trans (pB.1.mono (by decide))
              have lX2 : ga hc22 495 1 ≤ ((24 : Nat) : Int) := by rw [pB.1.ga (by decide)]; exact lX
              have bZ := pB.2.2
              have lZ : ga hc22 497 1 ≤ ((24 : Nat) : Int) := bZ.len (by decide) (nat_mul_b (k := 12) (m := 12) (bV r p r0.1 r0.2 p0.1 (by omega)) (bV p c p0.1 p0.2 k0.1 (by omega)))
              refine hd_aload pkX0_eliminate rfl rfl (Int.natCast_nonneg _) ?_
              refine hd_getR (n := 193) pkX0_eliminate rfl (ghc22.1.1.1) (ghc22.1.1.2.1) (ghc22.1.1.2.2.2.1) ?_
              refine hd_ipush (z := 2) pkX0_eliminate rfl ?_
              refine hd_aid pkX0_eliminate rfl ghc22 2 495 (by decide) rfl ?_
              refine hd_aload pkX0_eliminate rfl rfl (Int.natCast_nonneg _) ?_
              refine hd_getR (n := 193) pkX0_eliminate rfl (ghc22.1.1.1) (ghc22.1.1.2.1) (ghc22.1.1.2.2.2.1) ?_
              refine hd_ipush (z := 3) pkX0_eliminate rfl ?_
              refine hd_aid pkX0_eliminate rfl ghc22 3 497 (by decide) rfl ?_
              refine hd_ipush (z := (-1)) pkX0_eliminate rfl ?_
              refine hd_callV pkX0_eliminate rfl (q := (KX1_add, yX1_add, 1, 2, 0)) rfl rfl rfl (As := [(2, ((497 : Nat) : Int)), (0, (-1))]) (rest := []) (c := 495) rfl rfl (Nat.le_of_ble_eq_true rfl) ((ghc22.ob (W := 160) (aE 2 (by decide) rfl)).1.1) ((ghc22.ob (W := 160) (aE 2 (by decide) rfl)).1.2.1) (e_sub ghc22 (aE 2 (by decide) rfl) (aE 3 (by decide) rfl) (by decide) bX2 bZ (by omega) (by omega)) (hd_bV (fun hc23 pC => ?_))
              have ghc23 : ES n hc23 := pC.2.1
              have oY : Only [495, 496, 497, 498] hK hc23 := oX2.trans (pC.1.mono (by decide))
              have bY := pC.2.2
              refine m_sub [(0, (2, ((161 : Nat) : Int))), (1, (0, r)), (2, (0, p)), (3, (0, c)), (4, (2, ((eC r c : Nat) : Int))), (5, (0, ot))] (List.forall_mem_cons.mpr ⟨rfl, List.forall_mem_cons.mpr ⟨rfl, List.forall_mem_cons.mpr ⟨rfl, List.forall_mem_cons.mpr ⟨rfl, List.forall_mem_cons.mpr ⟨rfl, List.forall_mem_cons.mpr ⟨rfl, fun _ h => absurd h List.not_mem_nil⟩⟩⟩⟩⟩⟩) ?_
              refine cut79 trivial hc23 ghc23 ?_ ?_
              · first | exact oY | exact oX
              · first
                  | exact bY
                  | rw [show V r p * V p c = 0 by rcases (show V r p = 0 ∨ V p c = 0 by omega) with w | w <;> rw [w] <;> simp]
                    rw [Int.sub_zero]
                    exact bX
          · skip
            refine hd_iload pkX0_eliminate rfl rfl ?_
            refine hd_if_ne pkX0_eliminate rfl (fun c24 => ?_) (fun c24 => ?_)
            · skip
              refine hd_aload pkX0_eliminate rfl rfl (Int.natCast_nonneg _) ?_
              refine hd_getR (n := 193) pkX0_eliminate rfl (g11.1.1.1) (g11.1.1.2.1) (g11.1.1.2.2.2.1) ?_
              refine hd_ipush (z := 2) pkX0_eliminate rfl ?_
              refine hd_aid pkX0_eliminate rfl g11 2 495 (by decide) rfl ?_
              refine hd_aload pkX0_eliminate rfl rfl (Int.natCast_nonneg _) ?_
              refine hd_aload pkX0_eliminate rfl rfl (Int.natCast_nonneg _) ?_
              refine hd_iload pkX0_eliminate rfl rfl ?_
              refine hd_iload pkX0_eliminate rfl rfl ?_
              refine hd_callV pkX0_eliminate rfl (q := (KX0_cell, yX0_cell, 0, 2, 0)) rfl rfl rfl (As := [(0, p), (0, p)]) (rest := [(2, ((eC r c : Nat) : Int)), (2, ((495 : Nat) : Int))]) (c := 161) rfl rfl (Nat.le_of_ble_eq_true rfl) (g11.1.1.1) (g11.1.1.2.1) (h_X0_cell ⟨by omega, by omega⟩ ⟨by omega, by omega⟩ g11.1) (hd_bR (fun v25 hc27 p26 => ?_))
              obtain ⟨p26, ehc27⟩ := p26
              replace ehc27 := ehc27.symm
              subst ehc27
              subst p26
              refine hd_callV pkX0_eliminate rfl (q := (KX1_product_, yX1_product_, 1, 2, 0)) rfl rfl rfl (As := [(2, ((eC r c : Nat) : Int)), (2, ((eC p p : Nat) : Int))]) (rest := []) (c := 495) rfl rfl (Nat.le_of_ble_eq_true rfl) ((g11.ob (W := 160) (aE 2 (by decide) rfl)).1.1) ((g11.ob (W := 160) (aE 2 (by decide) rfl)).1.2.1) (e_product (Va := V r c) (Vb := V p p) g11 (aE 2 (by decide) rfl) mrc mpp (by omega) (by omega) brc bpp (by have := brc.1; have := bpp.1; omega)) (hd_bV (fun hc28 pA => ?_))
              have ghc28 : ES n hc28 := pA.2.1
              have oX : Only [495, 496, 497, 498] hK hc28 := pA.1.mono (by decide)
              have bX := pA.2.2
              have lX : ga hc28 495 1 ≤ ((24 : Nat) : Int) := bX.len (by decide) (nat_mul_b (k := 12) (m := 12) (bV r c r0.1 r0.2 k0.1 (by omega)) (bV p p p0.1 p0.2 p0.1 (by omega)))
              refine hd_iload pkX0_eliminate rfl rfl ?_
              have cut79 : ∀ (_ : True) (hS : MH), ES n hS → (Only [495, 496, 497, 498] hK hS) → (BV1 hS 495 160 (V r c * V p p - V r p * V p c)) → MW KX0_eliminate Q 0 0 (pcA pgX0_eliminate 79) [(0, (2, ((161 : Nat) : Int))), (1, (0, r)), (2, (0, p)), (3, (0, c)), (4, (2, ((eC r c : Nat) : Int))), (5, (0, ot))] [] hS := by
                intro _ hS gc79 oS bS
                refine hd_aload pkX0_eliminate rfl rfl (Int.natCast_nonneg _) ?_
                refine hd_getR (n := 193) pkX0_eliminate rfl (gc79.1.1.1) (gc79.1.1.2.1) (gc79.1.1.2.2.2.1) ?_
                refine hd_ipush (z := 2) pkX0_eliminate rfl ?_
                refine hd_aid pkX0_eliminate rfl gc79 2 495 (by decide) rfl ?_
                refine hd_aload pkX0_eliminate rfl rfl (Int.natCast_nonneg _) ?_
                refine hd_getR (n := 193) pkX0_eliminate rfl (gc79.1.1.1) (gc79.1.1.2.1) (gc79.1.1.2.2.2.1) ?_
                refine hd_ipush (z := 0) pkX0_eliminate rfl ?_
                refine hd_aid pkX0_eliminate rfl gc79 0 491 (by decide) rfl ?_
                refine hd_aload pkX0_eliminate rfl rfl (Int.natCast_nonneg _) ?_
                refine hd_getR (n := 193) pkX0_eliminate rfl (gc79.1.1.1) (gc79.1.1.2.1) (gc79.1.1.2.2.2.1) ?_
                refine hd_ipush (z := 4) pkX0_eliminate rfl ?_
                refine hd_aid pkX0_eliminate rfl gc79 4 499 (by decide) rfl ?_
                refine hd_aload pkX0_eliminate rfl rfl (Int.natCast_nonneg _) ?_
                refine hd_getR (n := 193) pkX0_eliminate rfl (gc79.1.1.1) (gc79.1.1.2.1) (gc79.1.1.2.2.2.1) ?_
                refine hd_ipush (z := 5) pkX0_eliminate rfl ?_
                refine hd_aid pkX0_eliminate rfl gc79 5 501 (by decide) rfl ?_
                refine hd_callV pkX0_eliminate rfl (q := (KX1_divide, yX1_divide, 1, 3, 0)) rfl rfl rfl (As := [(2, ((491 : Nat) : Int)), (2, ((499 : Nat) : Int)), (2, ((501 : Nat) : Int))]) (rest := []) (c := 495) rfl rfl (Nat.le_of_ble_eq_true rfl) ((gc79.ob (W := 160) (aE 2 (by decide) rfl)).1.1) ((gc79.ob (W := 160) (aE 2 (by decide) rfl)).1.2.1) (e_div gc79 bS (b09.ol oS (by decide) (by decide)) (z := W r c) (eW c k0.1 (by omega)).symm D0 (by have := bS.len (k := 25) (by decide) (nat_sub_b (k := 24) (nat_mul_b (k := 12) (m := 12) (bV r c r0.1 r0.2 k0.1 (by omega)) (bV p p p0.1 p0.2 p0.1 (by omega))) (nat_mul_b (k := 12) (m := 12) (bV r p r0.1 r0.2 p0.1 (by omega)) (bV p c p0.1 p0.2 k0.1 (by omega)))); omega)) (hd_bV (fun hc29 pD => ?_))
                have ghc29 : ES n hc29 := pD.2.1
                have oD : Only [495, 496, 497, 498, 499, 500, 501, 502] hK hc29 := (oS.mono (by decide)).trans (pD.1.mono (by decide))
                have bD := pD.2.2
                have lD : ga hc29 499 1 ≤ ((12 : Nat) : Int) := bD.len (by decide) (bW c k0.1 (by omega))
                refine hd_aload pkX0_eliminate rfl rfl (Int.natCast_nonneg _) ?_
                refine hd_aload pkX0_eliminate rfl rfl (Int.natCast_nonneg _) ?_
                refine hd_getR (n := 193) pkX0_eliminate rfl (ghc29.1.1.1) (ghc29.1.1.2.1) (ghc29.1.1.2.2.2.1) ?_
                refine hd_ipush (z := 4) pkX0_eliminate rfl ?_
                refine hd_aid pkX0_eliminate rfl ghc29 4 499 (by decide) rfl ?_
                refine hd_callV pkX0_eliminate rfl (q := (KX1_copy, yX1_copy, 1, 1, 0)) rfl rfl rfl (As := [(2, ((499 : Nat) : Int))]) (rest := []) (c := eC r c) rfl rfl (Nat.le_of_ble_eq_true rfl) ((ghc29.ob (W := 12) (eC_E ⟨by omega, by omega⟩ ⟨by omega, by omega⟩)).1.1) ((ghc29.ob (W := 12) (eC_E ⟨by omega, by omega⟩ ⟨by omega, by omega⟩)).1.2.1) (e_copy ghc29 mrc (aE 4 (by decide) rfl) (by omega) bD lD) (hd_bV (fun hc30 pE => ?_))
                have ghc30 : ES n hc30 := pE.2.1
                have oE : Only eCs h hc30 := ok9.trans ((only_eCs oD (by decide)).trans (only_e2 mrc pE.1))
                have b0E : BV1 hc30 491 160 D := (b09.ol oD (by decide) (by decide)).o2 pE.1 (by omega)
                have b1E : BV1 hc30 493 160 (V r p) := (b1.ol oD (by decide) (by decide)).o2 pE.1 (by omega)
                have l1E : ga hc30 493 1 ≤ 12 := by rw [pE.1.ga (by simp only [List.mem_cons, List.not_mem_nil, or_false, not_or]; omega), oD.ga (by decide)]; exact l1
                have evE : EV n (fun x y => if x = r ∧ y < c + 1 then W x y else V x y) hc30 := (ev9.ol n8.2 oD (by decide)).put n8.2 r0 ⟨k0.1, by omega⟩ pE.1 (by rw [if_pos (by omega)]; exact pE.2.2) (fun x y w => if_cg (by omega))
                refine hd_iinc (z := 1) pkX0_eliminate rfl rfl (by omega) rfl ?_
                change MW _ _ _ _ _ [(3, (0, (c + 1))), (0, (2, ((161 : Nat) : Int))), (1, (0, r)), (2, (0, p)), (4, (2, ((eC r c : Nat) : Int))), (5, (0, ot))] _ _
                refine hd_goto pkX0_eliminate rfl ?_
                refine m_sub [(0, (2, ((161 : Nat) : Int))), (1, (0, r)), (2, (0, p)), (3, (0, (c + 1)))] (List.forall_mem_cons.mpr ⟨rfl, List.forall_mem_cons.mpr ⟨rfl, List.forall_mem_cons.mpr ⟨rfl, List.forall_mem_cons.mpr ⟨rfl, fun _ h => absurd h List.not_mem_nil⟩⟩⟩⟩) ?_
                refine ih11  ((c + 1)) hc30 ghc30 ?_ ?_ ?_ ?_ ?_ ?_ ?_
                · first | exact oE | exact ok9
                · omega
                · first | exact evE | exact evN
                · first | exact b0E | exact b09
                · first | exact b1E | exact b1
                · first | exact l1E | exact l1
                · omega
              refine hd_if_eq pkX0_eliminate rfl (fun c31 => ?_) (fun c31 => ?_)
              · skip
                refine m_sub [(0, (2, ((161 : Nat) : Int))), (1, (0, r)), (2, (0, p)), (3, (0, c)), (4, (2, ((eC r c : Nat) : Int))), (5, (0, ot))] (List.forall_mem_cons.mpr ⟨rfl, List.forall_mem_cons.mpr ⟨rfl, List.forall_mem_cons.mpr ⟨rfl, List.forall_mem_cons.mpr ⟨rfl, List.forall_mem_cons.mpr ⟨rfl, List.forall_mem_cons.mpr ⟨rfl, fun _ h => absurd h List.not_mem_nil⟩⟩⟩⟩⟩⟩) ?_
                refine cut79 trivial hc28 ghc28 ?_ ?_
                · first | exact oY | exact oX
                · first
                    | exact bY
                    | rw [show V r p * V p c = 0 by rcases (show V r p = 0 ∨ V p c = 0 by omega) with w | w <;> rw [w] <;> simp]
                      rw [Int.sub_zero]
                      exact bX
              · skip
                refine hd_aload pkX0_eliminate rfl rfl (Int.natCast_nonneg _) ?_
                refine hd_getR (n := 193) pkX0_eliminate rfl (ghc28.1.1.1) (ghc28.1.1.2.1) (ghc28.1.1.2.2.2.1) ?_
                refine hd_ipush (z := 3) pkX0_eliminate rfl ?_
                refine hd_aid pkX0_eliminate rfl ghc28 3 497 (by decide) rfl ?_
                refine hd_aload pkX0_eliminate rfl rfl (Int.natCast_nonneg _) ?_
                refine hd_getR (n := 193) pkX0_eliminate rfl (ghc28.1.1.1) (ghc28.1.1.2.1) (ghc28.1.1.2.2.2.1) ?_
                refine hd_ipush (z := 1) pkX0_eliminate rfl ?_
                refine hd_aid pkX0_eliminate rfl ghc28 1 493 (by decide) rfl ?_
                refine hd_aload pkX0_eliminate rfl rfl (Int.natCast_nonneg _) ?_
                refine hd_iload pkX0_eliminate rfl rfl ?_
                refine hd_iload pkX0_eliminate rfl rfl ?_
                refine hd_callV pkX0_eliminate rfl (q := (KX0_cell, yX0_cell, 0, 2, 0)) rfl rfl rfl (As := [(0, p), (0, c)]) (rest := [(2, ((493 : Nat) : Int)), (2, ((497 : Nat) : Int))]) (c := 161) rfl rfl (Nat.le_of_ble_eq_true rfl) (ghc28.1.1.1) (ghc28.1.1.2.1) (h_X0_cell ⟨by omega, by omega⟩ ⟨by omega, by omega⟩ ghc28.1) (hd_bR (fun v32 hc34 p33 => ?_))
                obtain ⟨p33, ehc34⟩ := p33
                replace ehc34 := ehc34.symm
                subst ehc34
                subst p33
                refine hd_callV pkX0_eliminate rfl (q := (KX1_product_, yX1_product_, 1, 2, 0)) rfl rfl rfl (As := [(2, ((493 : Nat) : Int)), (2, ((eC p c : Nat) : Int))]) (rest := []) (c := 497) rfl rfl (Nat.le_of_ble_eq_true rfl) ((ghc28.ob (W := 160) (aE 3 (by decide) rfl)).1.1) ((ghc28.ob (W := 160) (aE 3 (by decide) rfl)).1.2.1) (e_product (Va := V r p) (Vb := V p c) ghc28 (aE 3 (by decide) rfl) (aE 1 (by decide) rfl) mpc (by decide) (by omega) (b1.ol oX (by decide) (by decide)) (bpc.ol oX (by simp only [List.mem_cons, List.not_mem_nil, or_false]; omega) (by simp only [List.mem_cons, List.not_mem_nil, or_false]; omega)) (by rw [oX.ga (by decide), oX.ga (by simp only [List.mem_cons, List.not_mem_nil, or_false]; omega)]; have := bpc.1; omega)) (hd_bV (fun hc35 pB => ?_))
                have ghc35 : ES n hc35 := pB.2.1
                have bX2 : BV1 hc35 495 160 (V r c * V p p) := bX.o2 pB.1 (by decide)
                have oX2 : Only [495, 496, 497, 498] hK hc35 := oX.trans (pB.1.mono (by decide))
                have lX2 : ga hc35 495 1 ≤ ((24 : Nat) : Int) := by rw [pB.1.ga (by decide)]; exact lX
                have bZ := pB.2.2
                have lZ : ga hc35 497 1 ≤ ((24 : Nat) : Int) := bZ.len (by decide) (nat_mul_b (k := 12) (m := 12) (bV r p r0.1 r0.2 p0.1 (by omega)) (bV p c p0.1 p0.2 k0.1 (by omega)))
                refine hd_aload pkX0_eliminate rfl rfl (Int.natCast_nonneg _) ?_
                refine hd_getR (n := 193) pkX0_eliminate rfl (ghc35.1.1.1) (ghc35.1.1.2.1) (ghc35.1.1.2.2.2.1) ?_
                refine hd_ipush (z := 2) pkX0_eliminate rfl ?_
                refine hd_aid pkX0_eliminate rfl ghc35 2 495 (by decide) rfl ?_
                refine hd_aload pkX0_eliminate rfl rfl (Int.natCast_nonneg _) ?_
                refine hd_getR (n := 193) pkX0_eliminate rfl (ghc35.1.1.1) (ghc35.1.1.2.1) (ghc35.1.1.2.2.2.1) ?_
                refine hd_ipush (z := 3) pkX0_eliminate rfl ?_
                refine hd_aid pkX0_eliminate rfl ghc35 3 497 (by decide) rfl ?_
                refine hd_ipush (z := (-1)) pkX0_eliminate rfl ?_
                refine hd_callV pkX0_eliminate rfl (q := (KX1_add, yX1_add, 1, 2, 0)) rfl rfl rfl (As := [(2, ((497 : Nat) : Int)), (0, (-1))]) (rest := []) (c := 495) rfl rfl (Nat.le_of_ble_eq_true rfl) ((ghc35.ob (W := 160) (aE 2 (by decide) rfl)).1.1) ((ghc35.ob (W := 160) (aE 2 (by decide) rfl)).1.2.1) (e_sub ghc35 (aE 2 (by decide) rfl) (aE 3 (by decide) rfl) (by decide) bX2 bZ (by omega) (by omega)) (hd_bV (fun hc36 pC => ?_))
                have ghc36 : ES n hc36 := pC.2.1
                have oY : Only [495, 496, 497, 498] hK hc36 := oX2.trans (pC.1.mono (by decide))
                have bY := pC.2.2
                refine m_sub [(0, (2, ((161 : Nat) : Int))), (1, (0, r)), (2, (0, p)), (3, (0, c)), (4, (2, ((eC r c : Nat) : Int))), (5, (0, ot))] (List.forall_mem_cons.mpr ⟨rfl, List.forall_mem_cons.mpr ⟨rfl, List.forall_mem_cons.mpr ⟨rfl, List.forall_mem_cons.mpr ⟨rfl, List.forall_mem_cons.mpr ⟨rfl, List.forall_mem_cons.mpr ⟨rfl, fun _ h => absurd h List.not_mem_nil⟩⟩⟩⟩⟩⟩) ?_
                refine cut79 trivial hc36 ghc36 ?_ ?_
                · first | exact oY | exact oX
                · first
                    | exact bY
                    | rw [show V r p * V p c = 0 by rcases (show V r p = 0 ∨ V p c = 0 by omega) with w | w <;> rw [w] <;> simp]
                      rw [Int.sub_zero]
                      exact bX
            · skip
              have w0 : W r c = V r c := by
                have e := eW c k0.1 (by omega)
                have v0 : V r c = 0 := by omega
                rw [v0, Int.zero_mul, show V r p * V p c = 0 by rcases (show V r p = 0 ∨ V p c = 0 by omega) with w | w <;> rw [w] <;> simp] at e
                have e2 : D * W r c = 0 := by omega
                rcases Int.mul_eq_zero.mp e2 with w | w
                · exact absurd w D0
                · rw [w, v0]
              have evN : EV n (fun x y => if x = r ∧ y < c + 1 then W x y else V x y) hK := fun x y x0 x1 y0 y1 => by
                have b := ev9 x y x0 x1 y0 y1
                dsimp only at b ⊢
                by_cases q : x = r ∧ y = c
                · rw [if_pos (by omega), q.1, q.2, w0]
                  exact brc
                · rw [if_cg (q := x = r ∧ y < c) (by omega)]
                  exact b
              refine hd_goto pkX0_eliminate rfl ?_
              refine hd_iinc (z := 1) pkX0_eliminate rfl rfl (by omega) rfl ?_
              change MW _ _ _ _ _ [(3, (0, (c + 1))), (5, (0, ot)), (0, (2, ((161 : Nat) : Int))), (1, (0, r)), (2, (0, p)), (4, (2, ((eC r c : Nat) : Int)))] _ _
              refine hd_goto pkX0_eliminate rfl ?_
              refine m_sub [(0, (2, ((161 : Nat) : Int))), (1, (0, r)), (2, (0, p)), (3, (0, (c + 1)))] (List.forall_mem_cons.mpr ⟨rfl, List.forall_mem_cons.mpr ⟨rfl, List.forall_mem_cons.mpr ⟨rfl, List.forall_mem_cons.mpr ⟨rfl, fun _ h => absurd h List.not_mem_nil⟩⟩⟩⟩) ?_
              refine ih11  ((c + 1)) hK g11 ?_ ?_ ?_ ?_ ?_ ?_ ?_
              · first | exact oE | exact ok9
              · omega
              · first | exact evE | exact evN
              · first | exact b0E | exact b09
              · first | exact b1E | exact b1
              · first | exact l1E | exact l1
              · omega
        refine hd_getI pkX0_eliminate rfl ((g11.ob (W := 160) (aE 1 (by decide) rfl)).1.1) ((g11.ob (W := 160) (aE 1 (by decide) rfl)).1.2.1) (fun v37 ev37 rv37 => ?_)
        replace ev37 : v37 = ga hK (493) 2 := ev37
        have s1 : v37 = (V r p).sign := ev37.trans b1.2.2.2.1
        have z1 : v37 = 0 ↔ V r p = 0 := by rw [s1]; exact bv_sign
        refine hd_if_eq pkX0_eliminate rfl (fun c38 => ?_) (fun c38 => ?_)
        · skip
          refine hd_ipush (z := 0) pkX0_eliminate rfl ?_
          refine m_sub [(0, (2, ((161 : Nat) : Int))), (1, (0, r)), (2, (0, p)), (3, (0, c)), (4, (2, ((eC r c : Nat) : Int)))] (List.forall_mem_cons.mpr ⟨rfl, List.forall_mem_cons.mpr ⟨rfl, List.forall_mem_cons.mpr ⟨rfl, List.forall_mem_cons.mpr ⟨rfl, List.forall_mem_cons.mpr ⟨rfl, fun _ h => absurd h List.not_mem_nil⟩⟩⟩⟩⟩) ?_
          refine cut37 (0) ?_
          · omega
        · skip
          refine hd_aload pkX0_eliminate rfl rfl (Int.natCast_nonneg _) ?_
          refine hd_iload pkX0_eliminate rfl rfl ?_
          refine hd_iload pkX0_eliminate rfl rfl ?_
          refine hd_callV pkX0_eliminate rfl (q := (KX0_cell, yX0_cell, 0, 2, 0)) rfl rfl rfl (As := [(0, p), (0, c)]) (rest := []) (c := 161) rfl rfl (Nat.le_of_ble_eq_true rfl) (g11.1.1.1) (g11.1.1.2.1) (h_X0_cell ⟨by omega, by omega⟩ ⟨by omega, by omega⟩ g11.1) (hd_bR (fun v39 hc41 p40 => ?_))
          obtain ⟨p40, ehc41⟩ := p40
          replace ehc41 := ehc41.symm
          subst ehc41
          subst p40
          refine hd_getI pkX0_eliminate rfl ((g11.ob (W := 12) (eC_E ⟨by omega, by omega⟩ ⟨by omega, by omega⟩)).1.1) ((g11.ob (W := 12) (eC_E ⟨by omega, by omega⟩ ⟨by omega, by omega⟩)).1.2.1) (fun v42 ev42 rv42 => ?_)
          replace ev42 : v42 = ga hK (eC p c) 2 := ev42
          have s2 : v42 = (V p c).sign := ev42.trans bpc.2.2.2.1
          have z2 : v42 = 0 ↔ V p c = 0 := by rw [s2]; exact bv_sign
          refine hd_if_eq pkX0_eliminate rfl (fun c43 => ?_) (fun c43 => ?_)
          · skip
            refine hd_ipush (z := 0) pkX0_eliminate rfl ?_
            refine m_sub [(0, (2, ((161 : Nat) : Int))), (1, (0, r)), (2, (0, p)), (3, (0, c)), (4, (2, ((eC r c : Nat) : Int)))] (List.forall_mem_cons.mpr ⟨rfl, List.forall_mem_cons.mpr ⟨rfl, List.forall_mem_cons.mpr ⟨rfl, List.forall_mem_cons.mpr ⟨rfl, List.forall_mem_cons.mpr ⟨rfl, fun _ h => absurd h List.not_mem_nil⟩⟩⟩⟩⟩) ?_
            refine cut37 (0) ?_
            · omega
          · skip
            refine hd_ipush (z := 1) pkX0_eliminate rfl ?_
            refine hd_goto pkX0_eliminate rfl ?_
            refine m_sub [(0, (2, ((161 : Nat) : Int))), (1, (0, r)), (2, (0, p)), (3, (0, c)), (4, (2, ((eC r c : Nat) : Int)))] (List.forall_mem_cons.mpr ⟨rfl, List.forall_mem_cons.mpr ⟨rfl, List.forall_mem_cons.mpr ⟨rfl, List.forall_mem_cons.mpr ⟨rfl, List.forall_mem_cons.mpr ⟨rfl, fun _ h => absurd h List.not_mem_nil⟩⟩⟩⟩⟩) ?_
            refine cut37 (1) ?_
            · omega
  refine m_sub [(0, (2, ((161 : Nat) : Int))), (1, (0, r)), (2, (0, p)), (3, (0, 0))] (List.forall_mem_cons.mpr ⟨rfl, List.forall_mem_cons.mpr ⟨rfl, List.forall_mem_cons.mpr ⟨rfl, List.forall_mem_cons.mpr ⟨rfl, fun _ h => absurd h List.not_mem_nil⟩⟩⟩⟩) ?_
  refine lp11 ((2 * n - (0)) + 1).toNat (0) hc4 ghc4 ?_ ?_ ?_ ?_ ?_ ?_ ?_
  · exact o1
  · omega
  · intro x y x0 x1 y0 y1
    dsimp only
    rw [if_neg (by omega)]
    exact ev1 x y x0 x1 y0 y1
  · exact b01
  · exact p1.2.2
  · exact p1.2.2.len (k := 12) (by decide) (bV r p r0.1 r0.2 p0.1 (by omega))
  · omega
