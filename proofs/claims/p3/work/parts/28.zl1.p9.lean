/-! X1 by hand: parts of a ratio; an effect cut off -/
set_option maxRecDepth 20000 in
set_option maxHeartbeats 8000000 in
theorem h_X5_partm1 {h : MH} (st : StrZ zT h) (f : FBX9 h) : MCal KX5_part yX5_part 0 0 [(2, ((561 : Nat) : Int)), (0, (-1))] h (mRL fun v h' => WQ h h' ∧ (-1 ≤ v ∧ v ≤ 1)) := by
  have g : WQ h h := ⟨st, Only.refl _ _, f⟩
  refine MCal.ofMW (Or.inl rfl) ⟨cp_X5, rfl⟩ (Nat.le_of_ble_eq_true rfl) ?_
  generalize eQ : (mRL fun v h' => WQ h h' ∧ (-1 ≤ v ∧ v ≤ 1) : MO → MH → Prop) = Q
  change MW KX5_part Q 0 0 (pcA pgX5_part 0) [(0, (2, ((561 : Nat) : Int))), (1, (0, (-1)))] [] h
  refine hd_iload pkX5_part rfl rfl ?_
  refine hd_ipush (z := (-1)) pkX5_part rfl ?_
  refine hd_ic_ge pkX5_part rfl (fun c1 => ?_) (fun c1 => ?_)
  · skip
    refine hd_iload pkX5_part rfl rfl ?_
    refine hd_ipush (z := (-1)) pkX5_part rfl ?_
    refine hd_ic_ne pkX5_part rfl (fun c2 => ?_) (fun c2 => ?_)
    · exfalso
      omega
    · skip
      refine hd_aload pkX5_part rfl rfl (Int.natCast_nonneg _) ?_
      refine hd_getR (n := 562) pkX5_part rfl (st_cell g.1 (c := 561) (k := 21) (n := 0) (by decide +kernel)).1 (st_cell g.1 (c := 561) (k := 21) (n := 0) (by decide +kernel)).2.1 (st_ref g.1 (by decide +kernel)) ?_
      refine hd_getI pkX5_part rfl (g.s 0 (by decide) (o := 562) rfl).1.1 (g.s 0 (by decide) (o := 562) rfl).1.2.1 (fun v3 ev3 rv3 => ?_)
      replace ev3 : v3 = ga h 562 2 := ev3
      refine hd_i2l pkX5_part rfl ?_
      refine hd_lret pkX5_part rfl ?_
      subst eQ
      exact ⟨rfl, rfl, g, by show (-1 : Int) ≤ v3 ∧ (v3 : Int) ≤ 1; have := (fb9 g.2.2 0 (by decide) (o := 562) rfl (by decide)).2.2.2.1; omega⟩
  · exfalso
    omega
set_option maxRecDepth 20000 in
set_option maxHeartbeats 8000000 in
theorem h_X5_part0 {h : MH} (st : StrZ zT h) (f : FBX9 h) : MCal KX5_part yX5_part 0 0 [(2, ((561 : Nat) : Int)), (0, 0)] h (mRL fun v h' => WQ h h' ∧ (0 ≤ v ∧ v ≤ 999999999999999999)) := by
  have g : WQ h h := ⟨st, Only.refl _ _, f⟩
  refine MCal.ofMW (Or.inl rfl) ⟨cp_X5, rfl⟩ (Nat.le_of_ble_eq_true rfl) ?_
  generalize eQ : (mRL fun v h' => WQ h h' ∧ (0 ≤ v ∧ v ≤ 999999999999999999) : MO → MH → Prop) = Q
  change MW KX5_part Q 0 0 (pcA pgX5_part 0) [(0, (2, ((561 : Nat) : Int))), (1, (0, 0))] [] h
  refine hd_iload pkX5_part rfl rfl ?_
  refine hd_ipush (z := (-1)) pkX5_part rfl ?_
  refine hd_ic_ge pkX5_part rfl (fun c1 => ?_) (fun c1 => ?_)
  · skip
    refine hd_iload pkX5_part rfl rfl ?_
    refine hd_ipush (z := (-1)) pkX5_part rfl ?_
    refine hd_ic_ne pkX5_part rfl (fun c2 => ?_) (fun c2 => ?_)
    · skip
      refine hd_aload pkX5_part rfl rfl (Int.natCast_nonneg _) ?_
      refine hd_getR (n := 566) pkX5_part rfl (st_cell g.1 (c := 561) (k := 21) (n := 0) (by decide +kernel)).1 (st_cell g.1 (c := 561) (k := 21) (n := 0) (by decide +kernel)).2.1 (st_ref g.1 (by decide +kernel)) ?_
      refine hd_iload pkX5_part rfl rfl ?_
      refine hd_ipush (z := 2) pkX5_part rfl ?_
      refine hd_irem pkX5_part rfl (by decide) (by decide) ?_
      generalize epm : (Int.tmod 0 2) = pm
      have pmv : pm = 0 := by rw [← epm]; rfl
      refine hd_if_ne pkX5_part rfl (fun c3 => ?_) (fun c3 => ?_)
      · exfalso
        omega
      · skip
        refine hd_aload pkX5_part rfl rfl (Int.natCast_nonneg _) ?_
        refine hd_getR (n := 562) pkX5_part rfl (st_cell g.1 (c := 561) (k := 21) (n := 0) (by decide +kernel)).1 (st_cell g.1 (c := 561) (k := 21) (n := 0) (by decide +kernel)).2.1 (st_ref g.1 (by decide +kernel)) ?_
        refine hd_goto pkX5_part rfl ?_
        refine hd_callV pkX5_part rfl (q := (KX1_copy, yX1_copy, 1, 1, 0)) rfl rfl rfl (As := [(2, ((562 : Nat) : Int))]) (rest := []) (c := 566) rfl rfl (Nat.le_of_ble_eq_true rfl) (g.s 2 (by decide) (o := 566) rfl).1.1 (g.s 2 (by decide) (o := 566) rfl).1.2.1 (g.copy 0 (by decide) (o := 562) rfl) (hd_bV (fun hc4 p5 => ?_))
        have cn := p5.2
        have ghc4 : WQ h hc4 := p5.1
        refine hd_iload pkX5_part rfl rfl ?_
        refine hd_ipush (z := 2) pkX5_part rfl ?_
        refine hd_idiv pkX5_part rfl (by decide) (by decide) ?_
        generalize epk : (Int.tdiv 0 2) = pk
        have pkv : pk = 0 := by rw [← epk]; rfl
        refine hd_istore pkX5_part rfl rfl ?_
        change MW _ _ _ _ _ [(2, (0, pk)), (0, (2, ((561 : Nat) : Int))), (1, (0, 0))] _ _
        refine hd_iload pkX5_part rfl rfl ?_
        refine hd_if_le pkX5_part rfl (fun c6 => ?_) (fun c6 => ?_)
        · skip
          refine hd_aload pkX5_part rfl rfl (Int.natCast_nonneg _) ?_
          refine hd_getR (n := 566) pkX5_part rfl (st_cell ghc4.1 (c := 561) (k := 21) (n := 0) (by decide +kernel)).1 (st_cell ghc4.1 (c := 561) (k := 21) (n := 0) (by decide +kernel)).2.1 (st_ref ghc4.1 (by decide +kernel)) ?_
          refine hd_ipush (z := 1000000000) pkX5_part rfl ?_
          refine hd_callV pkX5_part rfl (q := (KX1_divideSmall, yX1_divideSmall, 1, 1, 0)) rfl rfl rfl (As := [(0, 1000000000)]) (rest := []) (c := 566) rfl rfl (Nat.le_of_ble_eq_true rfl) (ghc4.s 2 (by decide) (o := 566) rfl).1.1 (ghc4.s 2 (by decide) (o := 566) rfl).1.2.1 ghc4.ds (hd_bI (fun w9 hc7 p8 => ?_))
          have ghc7 : WQ h hc7 := p8.1
          refine hd_i2l pkX5_part rfl ?_
          refine hd_lstore pkX5_part rfl rfl ?_
          change MW _ _ _ _ _ [(2, (1, w9)), (0, (2, ((561 : Nat) : Int))), (1, (0, 0))] _ _
          refine hd_lload pkX5_part rfl rfl ?_
          refine hd_lpush (z := 1000000000) pkX5_part rfl ?_
          refine hd_aload pkX5_part rfl rfl (Int.natCast_nonneg _) ?_
          refine hd_getR (n := 566) pkX5_part rfl (st_cell ghc7.1 (c := 561) (k := 21) (n := 0) (by decide +kernel)).1 (st_cell ghc7.1 (c := 561) (k := 21) (n := 0) (by decide +kernel)).2.1 (st_ref ghc7.1 (by decide +kernel)) ?_
          refine hd_ipush (z := 1000000000) pkX5_part rfl ?_
          refine hd_callV pkX5_part rfl (q := (KX1_divideSmall, yX1_divideSmall, 1, 1, 0)) rfl rfl rfl (As := [(0, 1000000000)]) (rest := [(1, 1000000000), (1, w9)]) (c := 566) rfl rfl (Nat.le_of_ble_eq_true rfl) (ghc7.s 2 (by decide) (o := 566) rfl).1.1 (ghc7.s 2 (by decide) (o := 566) rfl).1.2.1 ghc7.ds (hd_bI (fun w12 hc10 p11 => ?_))
          have ghc10 : WQ h hc10 := p11.1
          refine hd_i2l pkX5_part rfl ?_
          refine hd_lmul pkX5_part rfl (by omega) ?_
          refine hd_ladd pkX5_part rfl (by omega) ?_
          refine hd_lret pkX5_part rfl ?_
          subst eQ
          exact ⟨rfl, rfl, ghc10, (by show (0 : Int) ≤ (w9 + (1000000000 * w12)) ∧ ((w9 + (1000000000 * w12)) : Int) ≤ 999999999999999999; have := p8.2.1; have := p11.2.1; omega)⟩
        · exfalso
          omega
    · exfalso
      omega
  · exfalso
    omega
set_option maxRecDepth 20000 in
set_option maxHeartbeats 8000000 in
theorem h_X5_part1 {h : MH} (st : StrZ zT h) (f : FBX9 h) : MCal KX5_part yX5_part 0 0 [(2, ((561 : Nat) : Int)), (0, 1)] h (mRL fun v h' => WQ h h' ∧ (0 ≤ v ∧ v ≤ 999999999999999999) ∧ v = PV9 (nv1 (ga h 565) (ga h 564 1).toNat)) := by
  have g : WQ h h := ⟨st, Only.refl _ _, f⟩
  refine MCal.ofMW (Or.inl rfl) ⟨cp_X5, rfl⟩ (Nat.le_of_ble_eq_true rfl) ?_
  generalize eQ : (mRL fun v h' => WQ h h' ∧ (0 ≤ v ∧ v ≤ 999999999999999999) ∧ v = PV9 (nv1 (ga h 565) (ga h 564 1).toNat) : MO → MH → Prop) = Q
  change MW KX5_part Q 0 0 (pcA pgX5_part 0) [(0, (2, ((561 : Nat) : Int))), (1, (0, 1))] [] h
  refine hd_iload pkX5_part rfl rfl ?_
  refine hd_ipush (z := (-1)) pkX5_part rfl ?_
  refine hd_ic_ge pkX5_part rfl (fun c1 => ?_) (fun c1 => ?_)
  · skip
    refine hd_iload pkX5_part rfl rfl ?_
    refine hd_ipush (z := (-1)) pkX5_part rfl ?_
    refine hd_ic_ne pkX5_part rfl (fun c2 => ?_) (fun c2 => ?_)
    · skip
      refine hd_aload pkX5_part rfl rfl (Int.natCast_nonneg _) ?_
      refine hd_getR (n := 566) pkX5_part rfl (st_cell g.1 (c := 561) (k := 21) (n := 0) (by decide +kernel)).1 (st_cell g.1 (c := 561) (k := 21) (n := 0) (by decide +kernel)).2.1 (st_ref g.1 (by decide +kernel)) ?_
      refine hd_iload pkX5_part rfl rfl ?_
      refine hd_ipush (z := 2) pkX5_part rfl ?_
      refine hd_irem pkX5_part rfl (by decide) (by decide) ?_
      generalize epm : (Int.tmod 1 2) = pm
      have pmv : pm = 1 := by rw [← epm]; rfl
      refine hd_if_ne pkX5_part rfl (fun c3 => ?_) (fun c3 => ?_)
      · skip
        refine hd_aload pkX5_part rfl rfl (Int.natCast_nonneg _) ?_
        refine hd_getR (n := 564) pkX5_part rfl (st_cell g.1 (c := 561) (k := 21) (n := 0) (by decide +kernel)).1 (st_cell g.1 (c := 561) (k := 21) (n := 0) (by decide +kernel)).2.1 (st_ref g.1 (by decide +kernel)) ?_
        refine hd_callV pkX5_part rfl (q := (KX1_copy, yX1_copy, 1, 1, 0)) rfl rfl rfl (As := [(2, ((564 : Nat) : Int))]) (rest := []) (c := 566) rfl rfl (Nat.le_of_ble_eq_true rfl) (g.s 2 (by decide) (o := 566) rfl).1.1 (g.s 2 (by decide) (o := 566) rfl).1.2.1 (g.copy 1 (by decide) (o := 564) rfl) (hd_bV (fun hc4 p5 => ?_))
        have cn := p5.2
        have ghc4 : WQ h hc4 := p5.1
        refine hd_iload pkX5_part rfl rfl ?_
        refine hd_ipush (z := 2) pkX5_part rfl ?_
        refine hd_idiv pkX5_part rfl (by decide) (by decide) ?_
        generalize epk : (Int.tdiv 1 2) = pk
        have pkv : pk = 0 := by rw [← epk]; rfl
        refine hd_istore pkX5_part rfl rfl ?_
        change MW _ _ _ _ _ [(2, (0, pk)), (0, (2, ((561 : Nat) : Int))), (1, (0, 1))] _ _
        refine hd_iload pkX5_part rfl rfl ?_
        refine hd_if_le pkX5_part rfl (fun c6 => ?_) (fun c6 => ?_)
        · skip
          refine hd_aload pkX5_part rfl rfl (Int.natCast_nonneg _) ?_
          refine hd_getR (n := 566) pkX5_part rfl (st_cell ghc4.1 (c := 561) (k := 21) (n := 0) (by decide +kernel)).1 (st_cell ghc4.1 (c := 561) (k := 21) (n := 0) (by decide +kernel)).2.1 (st_ref ghc4.1 (by decide +kernel)) ?_
          refine hd_ipush (z := 1000000000) pkX5_part rfl ?_
          refine hd_callV pkX5_part rfl (q := (KX1_divideSmall, yX1_divideSmall, 1, 1, 0)) rfl rfl rfl (As := [(0, 1000000000)]) (rest := []) (c := 566) rfl rfl (Nat.le_of_ble_eq_true rfl) (ghc4.s 2 (by decide) (o := 566) rfl).1.1 (ghc4.s 2 (by decide) (o := 566) rfl).1.2.1 ghc4.ds (hd_bI (fun w9 hc7 p8 => ?_))
          have ghc7 : WQ h hc7 := p8.1
          refine hd_i2l pkX5_part rfl ?_
          refine hd_lstore pkX5_part rfl rfl ?_
          change MW _ _ _ _ _ [(2, (1, w9)), (0, (2, ((561 : Nat) : Int))), (1, (0, 1))] _ _
          refine hd_lload pkX5_part rfl rfl ?_
          refine hd_lpush (z := 1000000000) pkX5_part rfl ?_
          refine hd_aload pkX5_part rfl rfl (Int.natCast_nonneg _) ?_
          refine hd_getR (n := 566) pkX5_part rfl (st_cell ghc7.1 (c := 561) (k := 21) (n := 0) (by decide +kernel)).1 (st_cell ghc7.1 (c := 561) (k := 21) (n := 0) (by decide +kernel)).2.1 (st_ref ghc7.1 (by decide +kernel)) ?_
          refine hd_ipush (z := 1000000000) pkX5_part rfl ?_
          refine hd_callV pkX5_part rfl (q := (KX1_divideSmall, yX1_divideSmall, 1, 1, 0)) rfl rfl rfl (As := [(0, 1000000000)]) (rest := [(1, 1000000000), (1, w9)]) (c := 566) rfl rfl (Nat.le_of_ble_eq_true rfl) (ghc7.s 2 (by decide) (o := 566) rfl).1.1 (ghc7.s 2 (by decide) (o := 566) rfl).1.2.1 ghc7.ds (hd_bI (fun w12 hc10 p11 => ?_))
          have ghc10 : WQ h hc10 := p11.1
          refine hd_i2l pkX5_part rfl ?_
          refine hd_lmul pkX5_part rfl (by omega) ?_
          refine hd_ladd pkX5_part rfl (by omega) ?_
          refine hd_lret pkX5_part rfl ?_
          subst eQ
          refine ⟨rfl, rfl, ghc10, (by show (0 : Int) ≤ (w9 + (1000000000 * w12)) ∧ ((w9 + (1000000000 * w12)) : Int) ≤ 999999999999999999; have := p8.2.1; have := p11.2.1; omega), ?_⟩
          show ((w9 + (1000000000 * w12)) : Int) = PV9 _
          unfold PV9
          have a := p8.2.2.1
          have b := p8.2.2.2
          have c := p11.2.2.1
          rw [b] at c
          rw [cn] at a c
          rw [a, c]
        · exfalso
          omega
      · exfalso
        omega
    · exfalso
      omega
  · exfalso
    omega
set_option maxRecDepth 20000 in
set_option maxHeartbeats 8000000 in
theorem h_X5_part2 {h : MH} (st : StrZ zT h) (f : FBX9 h) : MCal KX5_part yX5_part 0 0 [(2, ((561 : Nat) : Int)), (0, 2)] h (mRL fun v h' => WQ h h' ∧ (0 ≤ v ∧ v ≤ 999999999999999999)) := by
  have g : WQ h h := ⟨st, Only.refl _ _, f⟩
  refine MCal.ofMW (Or.inl rfl) ⟨cp_X5, rfl⟩ (Nat.le_of_ble_eq_true rfl) ?_
  generalize eQ : (mRL fun v h' => WQ h h' ∧ (0 ≤ v ∧ v ≤ 999999999999999999) : MO → MH → Prop) = Q
  change MW KX5_part Q 0 0 (pcA pgX5_part 0) [(0, (2, ((561 : Nat) : Int))), (1, (0, 2))] [] h
  refine hd_iload pkX5_part rfl rfl ?_
  refine hd_ipush (z := (-1)) pkX5_part rfl ?_
  refine hd_ic_ge pkX5_part rfl (fun c1 => ?_) (fun c1 => ?_)
  · skip
    refine hd_iload pkX5_part rfl rfl ?_
    refine hd_ipush (z := (-1)) pkX5_part rfl ?_
    refine hd_ic_ne pkX5_part rfl (fun c2 => ?_) (fun c2 => ?_)
    · skip
      refine hd_aload pkX5_part rfl rfl (Int.natCast_nonneg _) ?_
      refine hd_getR (n := 566) pkX5_part rfl (st_cell g.1 (c := 561) (k := 21) (n := 0) (by decide +kernel)).1 (st_cell g.1 (c := 561) (k := 21) (n := 0) (by decide +kernel)).2.1 (st_ref g.1 (by decide +kernel)) ?_
      refine hd_iload pkX5_part rfl rfl ?_
      refine hd_ipush (z := 2) pkX5_part rfl ?_
      refine hd_irem pkX5_part rfl (by decide) (by decide) ?_
      generalize epm : (Int.tmod 2 2) = pm
      have pmv : pm = 0 := by rw [← epm]; rfl
      refine hd_if_ne pkX5_part rfl (fun c3 => ?_) (fun c3 => ?_)
      · exfalso
        omega
      · skip
        refine hd_aload pkX5_part rfl rfl (Int.natCast_nonneg _) ?_
        refine hd_getR (n := 562) pkX5_part rfl (st_cell g.1 (c := 561) (k := 21) (n := 0) (by decide +kernel)).1 (st_cell g.1 (c := 561) (k := 21) (n := 0) (by decide +kernel)).2.1 (st_ref g.1 (by decide +kernel)) ?_
        refine hd_goto pkX5_part rfl ?_
        refine hd_callV pkX5_part rfl (q := (KX1_copy, yX1_copy, 1, 1, 0)) rfl rfl rfl (As := [(2, ((562 : Nat) : Int))]) (rest := []) (c := 566) rfl rfl (Nat.le_of_ble_eq_true rfl) (g.s 2 (by decide) (o := 566) rfl).1.1 (g.s 2 (by decide) (o := 566) rfl).1.2.1 (g.copy 0 (by decide) (o := 562) rfl) (hd_bV (fun hc4 p5 => ?_))
        have cn := p5.2
        have ghc4 : WQ h hc4 := p5.1
        refine hd_iload pkX5_part rfl rfl ?_
        refine hd_ipush (z := 2) pkX5_part rfl ?_
        refine hd_idiv pkX5_part rfl (by decide) (by decide) ?_
        generalize epk : (Int.tdiv 2 2) = pk
        have pkv : pk = 1 := by rw [← epk]; rfl
        refine hd_istore pkX5_part rfl rfl ?_
        change MW _ _ _ _ _ [(2, (0, pk)), (0, (2, ((561 : Nat) : Int))), (1, (0, 2))] _ _
        have lp29 : ∀ (N29 : Nat) (k : Int) (hL : MH), WQ h hL → (0 ≤ k ∧ k ≤ 1) → k < (N29 : Int) → MW KX5_part Q 0 0 (pcA pgX5_part 29) [(0, (2, ((561 : Nat) : Int))), (1, (0, 2)), (2, (0, k))] [] hL := by
          intro N29
          induction N29 with
          | zero => intro k hL g29 kb hm29; exfalso; omega
          | succ N29 ih29 =>
            intro k hL g29 kb hm29
            refine hd_iload pkX5_part rfl rfl ?_
            refine hd_if_le pkX5_part rfl (fun c6 => ?_) (fun c6 => ?_)
            · skip
              refine hd_aload pkX5_part rfl rfl (Int.natCast_nonneg _) ?_
              refine hd_getR (n := 566) pkX5_part rfl (st_cell g29.1 (c := 561) (k := 21) (n := 0) (by decide +kernel)).1 (st_cell g29.1 (c := 561) (k := 21) (n := 0) (by decide +kernel)).2.1 (st_ref g29.1 (by decide +kernel)) ?_
              refine hd_ipush (z := 1000000000) pkX5_part rfl ?_
              refine hd_callV pkX5_part rfl (q := (KX1_divideSmall, yX1_divideSmall, 1, 1, 0)) rfl rfl rfl (As := [(0, 1000000000)]) (rest := []) (c := 566) rfl rfl (Nat.le_of_ble_eq_true rfl) (g29.s 2 (by decide) (o := 566) rfl).1.1 (g29.s 2 (by decide) (o := 566) rfl).1.2.1 g29.ds (hd_bI (fun w9 hc7 p8 => ?_))
              have ghc7 : WQ h hc7 := p8.1
              refine hd_i2l pkX5_part rfl ?_
              refine hd_lstore pkX5_part rfl rfl ?_
              change MW _ _ _ _ _ [(2, (1, w9)), (0, (2, ((561 : Nat) : Int))), (1, (0, 2))] _ _
              refine hd_lload pkX5_part rfl rfl ?_
              refine hd_lpush (z := 1000000000) pkX5_part rfl ?_
              refine hd_aload pkX5_part rfl rfl (Int.natCast_nonneg _) ?_
              refine hd_getR (n := 566) pkX5_part rfl (st_cell ghc7.1 (c := 561) (k := 21) (n := 0) (by decide +kernel)).1 (st_cell ghc7.1 (c := 561) (k := 21) (n := 0) (by decide +kernel)).2.1 (st_ref ghc7.1 (by decide +kernel)) ?_
              refine hd_ipush (z := 1000000000) pkX5_part rfl ?_
              refine hd_callV pkX5_part rfl (q := (KX1_divideSmall, yX1_divideSmall, 1, 1, 0)) rfl rfl rfl (As := [(0, 1000000000)]) (rest := [(1, 1000000000), (1, w9)]) (c := 566) rfl rfl (Nat.le_of_ble_eq_true rfl) (ghc7.s 2 (by decide) (o := 566) rfl).1.1 (ghc7.s 2 (by decide) (o := 566) rfl).1.2.1 ghc7.ds (hd_bI (fun w12 hc10 p11 => ?_))
              have ghc10 : WQ h hc10 := p11.1
              refine hd_i2l pkX5_part rfl ?_
              refine hd_lmul pkX5_part rfl (by omega) ?_
              refine hd_ladd pkX5_part rfl (by omega) ?_
              refine hd_lret pkX5_part rfl ?_
              subst eQ
              exact ⟨rfl, rfl, ghc10, (by show (0 : Int) ≤ (w9 + (1000000000 * w12)) ∧ ((w9 + (1000000000 * w12)) : Int) ≤ 999999999999999999; have := p8.2.1; have := p11.2.1; omega)⟩
            · skip
              refine hd_aload pkX5_part rfl rfl (Int.natCast_nonneg _) ?_
              refine hd_getR (n := 566) pkX5_part rfl (st_cell g29.1 (c := 561) (k := 21) (n := 0) (by decide +kernel)).1 (st_cell g29.1 (c := 561) (k := 21) (n := 0) (by decide +kernel)).2.1 (st_ref g29.1 (by decide +kernel)) ?_
              refine hd_getI pkX5_part rfl (g29.s 2 (by decide) (o := 566) rfl).1.1 (g29.s 2 (by decide) (o := 566) rfl).1.2.1 (fun v13 ev13 rv13 => ?_)
              replace ev13 : v13 = ga hL 566 1 := ev13
              refine hd_if_le pkX5_part rfl (fun c14 => ?_) (fun c14 => ?_)
              · skip
                refine hd_aload pkX5_part rfl rfl (Int.natCast_nonneg _) ?_
                refine hd_getR (n := 566) pkX5_part rfl (st_cell g29.1 (c := 561) (k := 21) (n := 0) (by decide +kernel)).1 (st_cell g29.1 (c := 561) (k := 21) (n := 0) (by decide +kernel)).2.1 (st_ref g29.1 (by decide +kernel)) ?_
                refine hd_ipush (z := 1000000000) pkX5_part rfl ?_
                refine hd_callV pkX5_part rfl (q := (KX1_divideSmall, yX1_divideSmall, 1, 1, 0)) rfl rfl rfl (As := [(0, 1000000000)]) (rest := []) (c := 566) rfl rfl (Nat.le_of_ble_eq_true rfl) (g29.s 2 (by decide) (o := 566) rfl).1.1 (g29.s 2 (by decide) (o := 566) rfl).1.2.1 g29.ds (hd_bI (fun w17 hc15 p16 => ?_))
                have ghc15 : WQ h hc15 := p16.1
                refine hd_i2l pkX5_part rfl ?_
                refine hd_lstore pkX5_part rfl rfl ?_
                change MW _ _ _ _ _ [(2, (1, w17)), (0, (2, ((561 : Nat) : Int))), (1, (0, 2))] _ _
                refine hd_lload pkX5_part rfl rfl ?_
                refine hd_lpush (z := 1000000000) pkX5_part rfl ?_
                refine hd_aload pkX5_part rfl rfl (Int.natCast_nonneg _) ?_
                refine hd_getR (n := 566) pkX5_part rfl (st_cell ghc15.1 (c := 561) (k := 21) (n := 0) (by decide +kernel)).1 (st_cell ghc15.1 (c := 561) (k := 21) (n := 0) (by decide +kernel)).2.1 (st_ref ghc15.1 (by decide +kernel)) ?_
                refine hd_ipush (z := 1000000000) pkX5_part rfl ?_
                refine hd_callV pkX5_part rfl (q := (KX1_divideSmall, yX1_divideSmall, 1, 1, 0)) rfl rfl rfl (As := [(0, 1000000000)]) (rest := [(1, 1000000000), (1, w17)]) (c := 566) rfl rfl (Nat.le_of_ble_eq_true rfl) (ghc15.s 2 (by decide) (o := 566) rfl).1.1 (ghc15.s 2 (by decide) (o := 566) rfl).1.2.1 ghc15.ds (hd_bI (fun w20 hc18 p19 => ?_))
                have ghc18 : WQ h hc18 := p19.1
                refine hd_i2l pkX5_part rfl ?_
                refine hd_lmul pkX5_part rfl (by omega) ?_
                refine hd_ladd pkX5_part rfl (by omega) ?_
                refine hd_lret pkX5_part rfl ?_
                subst eQ
                exact ⟨rfl, rfl, ghc18, (by show (0 : Int) ≤ (w17 + (1000000000 * w20)) ∧ ((w17 + (1000000000 * w20)) : Int) ≤ 999999999999999999; have := p16.2.1; have := p19.2.1; omega)⟩
              · skip
                refine hd_aload pkX5_part rfl rfl (Int.natCast_nonneg _) ?_
                refine hd_getR (n := 566) pkX5_part rfl (st_cell g29.1 (c := 561) (k := 21) (n := 0) (by decide +kernel)).1 (st_cell g29.1 (c := 561) (k := 21) (n := 0) (by decide +kernel)).2.1 (st_ref g29.1 (by decide +kernel)) ?_
                refine hd_ipush (z := 1000000000) pkX5_part rfl ?_
                refine hd_callV pkX5_part rfl (q := (KX1_divideSmall, yX1_divideSmall, 1, 1, 0)) rfl rfl rfl (As := [(0, 1000000000)]) (rest := []) (c := 566) rfl rfl (Nat.le_of_ble_eq_true rfl) (g29.s 2 (by decide) (o := 566) rfl).1.1 (g29.s 2 (by decide) (o := 566) rfl).1.2.1 g29.ds (hd_bI (fun w23 hc21 p22 => ?_))
                have ghc21 : WQ h hc21 := p22.1
                refine hd_pop pkX5_part rfl rfl ?_
                refine hd_aload pkX5_part rfl rfl (Int.natCast_nonneg _) ?_
                refine hd_getR (n := 566) pkX5_part rfl (st_cell ghc21.1 (c := 561) (k := 21) (n := 0) (by decide +kernel)).1 (st_cell ghc21.1 (c := 561) (k := 21) (n := 0) (by decide +kernel)).2.1 (st_ref ghc21.1 (by decide +kernel)) ?_
                refine hd_ipush (z := 1000000000) pkX5_part rfl ?_
                refine hd_callV pkX5_part rfl (q := (KX1_divideSmall, yX1_divideSmall, 1, 1, 0)) rfl rfl rfl (As := [(0, 1000000000)]) (rest := []) (c := 566) rfl rfl (Nat.le_of_ble_eq_true rfl) (ghc21.s 2 (by decide) (o := 566) rfl).1.1 (ghc21.s 2 (by decide) (o := 566) rfl).1.2.1 ghc21.ds (hd_bI (fun w26 hc24 p25 => ?_))
                have ghc24 : WQ h hc24 := p25.1
                refine hd_pop pkX5_part rfl rfl ?_
                refine hd_iinc (z := (-1)) pkX5_part rfl rfl (by omega) rfl ?_
                change MW _ _ _ _ _ [(2, (0, (k + (-1)))), (0, (2, ((561 : Nat) : Int))), (1, (0, 2))] _ _
                refine hd_goto pkX5_part rfl ?_
                refine m_sub [(0, (2, ((561 : Nat) : Int))), (1, (0, 2)), (2, (0, (k + (-1))))] (List.forall_mem_cons.mpr ⟨rfl, List.forall_mem_cons.mpr ⟨rfl, List.forall_mem_cons.mpr ⟨rfl, fun _ h => absurd h List.not_mem_nil⟩⟩⟩) ?_
                refine ih29  ((k + (-1))) hc24 ghc24 ?_ ?_
                · omega
                · omega
        refine m_sub [(0, (2, ((561 : Nat) : Int))), (1, (0, 2)), (2, (0, pk))] (List.forall_mem_cons.mpr ⟨rfl, List.forall_mem_cons.mpr ⟨rfl, List.forall_mem_cons.mpr ⟨rfl, fun _ h => absurd h List.not_mem_nil⟩⟩⟩) ?_
        refine lp29 (((pk)) + 1).toNat (pk) hc4 ghc4 ?_ ?_
        · omega
        · omega
    · exfalso
      omega
  · exfalso
    omega
set_option maxRecDepth 20000 in
set_option maxHeartbeats 8000000 in
theorem h_X5_part3 {h : MH} (st : StrZ zT h) (f : FBX9 h) : MCal KX5_part yX5_part 0 0 [(2, ((561 : Nat) : Int)), (0, 3)] h (mRL fun v h' => WQ h h' ∧ (0 ≤ v ∧ v ≤ 999999999999999999)) := by
  have g : WQ h h := ⟨st, Only.refl _ _, f⟩
  refine MCal.ofMW (Or.inl rfl) ⟨cp_X5, rfl⟩ (Nat.le_of_ble_eq_true rfl) ?_
  generalize eQ : (mRL fun v h' => WQ h h' ∧ (0 ≤ v ∧ v ≤ 999999999999999999) : MO → MH → Prop) = Q
  change MW KX5_part Q 0 0 (pcA pgX5_part 0) [(0, (2, ((561 : Nat) : Int))), (1, (0, 3))] [] h
  refine hd_iload pkX5_part rfl rfl ?_
  refine hd_ipush (z := (-1)) pkX5_part rfl ?_
  refine hd_ic_ge pkX5_part rfl (fun c1 => ?_) (fun c1 => ?_)
  · skip
    refine hd_iload pkX5_part rfl rfl ?_
    refine hd_ipush (z := (-1)) pkX5_part rfl ?_
    refine hd_ic_ne pkX5_part rfl (fun c2 => ?_) (fun c2 => ?_)
    · skip
      refine hd_aload pkX5_part rfl rfl (Int.natCast_nonneg _) ?_
      refine hd_getR (n := 566) pkX5_part rfl (st_cell g.1 (c := 561) (k := 21) (n := 0) (by decide +kernel)).1 (st_cell g.1 (c := 561) (k := 21) (n := 0) (by decide +kernel)).2.1 (st_ref g.1 (by decide +kernel)) ?_
      refine hd_iload pkX5_part rfl rfl ?_
      refine hd_ipush (z := 2) pkX5_part rfl ?_
      refine hd_irem pkX5_part rfl (by decide) (by decide) ?_
      generalize epm : (Int.tmod 3 2) = pm
      have pmv : pm = 1 := by rw [← epm]; rfl
      refine hd_if_ne pkX5_part rfl (fun c3 => ?_) (fun c3 => ?_)
      · skip
        refine hd_aload pkX5_part rfl rfl (Int.natCast_nonneg _) ?_
        refine hd_getR (n := 564) pkX5_part rfl (st_cell g.1 (c := 561) (k := 21) (n := 0) (by decide +kernel)).1 (st_cell g.1 (c := 561) (k := 21) (n := 0) (by decide +kernel)).2.1 (st_ref g.1 (by decide +kernel)) ?_
        refine hd_callV pkX5_part rfl (q := (KX1_copy, yX1_copy, 1, 1, 0)) rfl rfl rfl (As := [(2, ((564 : Nat) : Int))]) (rest := []) (c := 566) rfl rfl (Nat.le_of_ble_eq_true rfl) (g.s 2 (by decide) (o := 566) rfl).1.1 (g.s 2 (by decide) (o := 566) rfl).1.2.1 (g.copy 1 (by decide) (o := 564) rfl) (hd_bV (fun hc4 p5 => ?_))
        have cn := p5.2
        have ghc4 : WQ h hc4 := p5.1
        refine hd_iload pkX5_part rfl rfl ?_
        refine hd_ipush (z := 2) pkX5_part rfl ?_
        refine hd_idiv pkX5_part rfl (by decide) (by decide) ?_
        generalize epk : (Int.tdiv 3 2) = pk
        have pkv : pk = 1 := by rw [← epk]; rfl
        refine hd_istore pkX5_part rfl rfl ?_
        change MW _ _ _ _ _ [(2, (0, pk)), (0, (2, ((561 : Nat) : Int))), (1, (0, 3))] _ _
        have lp29 : ∀ (N29 : Nat) (k : Int) (hL : MH), WQ h hL → (0 ≤ k ∧ k ≤ 1) → k < (N29 : Int) → MW KX5_part Q 0 0 (pcA pgX5_part 29) [(0, (2, ((561 : Nat) : Int))), (1, (0, 3)), (2, (0, k))] [] hL := by
          intro N29
          induction N29 with
          | zero => intro k hL g29 kb hm29; exfalso; omega
          | succ N29 ih29 =>
            intro k hL g29 kb hm29
            refine hd_iload pkX5_part rfl rfl ?_
            refine hd_if_le pkX5_part rfl (fun c6 => ?_) (fun c6 => ?_)
            · skip
              refine hd_aload pkX5_part rfl rfl (Int.natCast_nonneg _) ?_
              refine hd_getR (n := 566) pkX5_part rfl (st_cell g29.1 (c := 561) (k := 21) (n := 0) (by decide +kernel)).1 (st_cell g29.1 (c := 561) (k := 21) (n := 0) (by decide +kernel)).2.1 (st_ref g29.1 (by decide +kernel)) ?_
              refine hd_ipush (z := 1000000000) pkX5_part rfl ?_
              refine hd_callV pkX5_part rfl (q := (KX1_divideSmall, yX1_divideSmall, 1, 1, 0)) rfl rfl rfl (As := [(0, 1000000000)]) (rest := []) (c := 566) rfl rfl (Nat.le_of_ble_eq_true rfl) (g29.s 2 (by decide) (o := 566) rfl).1.1 (g29.s 2 (by decide) (o := 566) rfl).1.2.1 g29.ds (hd_bI (fun w9 hc7 p8 => ?_))
              have ghc7 : WQ h hc7 := p8.1
              refine hd_i2l pkX5_part rfl ?_
              refine hd_lstore pkX5_part rfl rfl ?_
              change MW _ _ _ _ _ [(2, (1, w9)), (0, (2, ((561 : Nat) : Int))), (1, (0, 3))] _ _
              refine hd_lload pkX5_part rfl rfl ?_
              refine hd_lpush (z := 1000000000) pkX5_part rfl ?_
              refine hd_aload pkX5_part rfl rfl (Int.natCast_nonneg _) ?_
              refine hd_getR (n := 566) pkX5_part rfl (st_cell ghc7.1 (c := 561) (k := 21) (n := 0) (by decide +kernel)).1 (st_cell ghc7.1 (c := 561) (k := 21) (n := 0) (by decide +kernel)).2.1 (st_ref ghc7.1 (by decide +kernel)) ?_
              refine hd_ipush (z := 1000000000) pkX5_part rfl ?_
              refine hd_callV pkX5_part rfl (q := (KX1_divideSmall, yX1_divideSmall, 1, 1, 0)) rfl rfl rfl (As := [(0, 1000000000)]) (rest := [(1, 1000000000), (1, w9)]) (c := 566) rfl rfl (Nat.le_of_ble_eq_true rfl) (ghc7.s 2 (by decide) (o := 566) rfl).1.1 (ghc7.s 2 (by decide) (o := 566) rfl).1.2.1 ghc7.ds (hd_bI (fun w12 hc10 p11 => ?_))
              have ghc10 : WQ h hc10 := p11.1
              refine hd_i2l pkX5_part rfl ?_
              refine hd_lmul pkX5_part rfl (by omega) ?_
              refine hd_ladd pkX5_part rfl (by omega) ?_
              refine hd_lret pkX5_part rfl ?_
              subst eQ
              exact ⟨rfl, rfl, ghc10, (by show (0 : Int) ≤ (w9 + (1000000000 * w12)) ∧ ((w9 + (1000000000 * w12)) : Int) ≤ 999999999999999999; have := p8.2.1; have := p11.2.1; omega)⟩
            · skip
              refine hd_aload pkX5_part rfl rfl (Int.natCast_nonneg _) ?_
              refine hd_getR (n := 566) pkX5_part rfl (st_cell g29.1 (c := 561) (k := 21) (n := 0) (by decide +kernel)).1 (st_cell g29.1 (c := 561) (k := 21) (n := 0) (by decide +kernel)).2.1 (st_ref g29.1 (by decide +kernel)) ?_
              refine hd_getI pkX5_part rfl (g29.s 2 (by decide) (o := 566) rfl).1.1 (g29.s 2 (by decide) (o := 566) rfl).1.2.1 (fun v13 ev13 rv13 => ?_)
              replace ev13 : v13 = ga hL 566 1 := ev13
              refine hd_if_le pkX5_part rfl (fun c14 => ?_) (fun c14 => ?_)
              · skip
                refine hd_aload pkX5_part rfl rfl (Int.natCast_nonneg _) ?_
                refine hd_getR (n := 566) pkX5_part rfl (st_cell g29.1 (c := 561) (k := 21) (n := 0) (by decide +kernel)).1 (st_cell g29.1 (c := 561) (k := 21) (n := 0) (by decide +kernel)).2.1 (st_ref g29.1 (by decide +kernel)) ?_
                refine hd_ipush (z := 1000000000) pkX5_part rfl ?_
                refine hd_callV pkX5_part rfl (q := (KX1_divideSmall, yX1_divideSmall, 1, 1, 0)) rfl rfl rfl (As := [(0, 1000000000)]) (rest := []) (c := 566) rfl rfl (Nat.le_of_ble_eq_true rfl) (g29.s 2 (by decide) (o := 566) rfl).1.1 (g29.s 2 (by decide) (o := 566) rfl).1.2.1 g29.ds (hd_bI (fun w17 hc15 p16 => ?_))
                have ghc15 : WQ h hc15 := p16.1
                refine hd_i2l pkX5_part rfl ?_
                refine hd_lstore pkX5_part rfl rfl ?_
                change MW _ _ _ _ _ [(2, (1, w17)), (0, (2, ((561 : Nat) : Int))), (1, (0, 3))] _ _
                refine hd_lload pkX5_part rfl rfl ?_
                refine hd_lpush (z := 1000000000) pkX5_part rfl ?_
                refine hd_aload pkX5_part rfl rfl (Int.natCast_nonneg _) ?_
                refine hd_getR (n := 566) pkX5_part rfl (st_cell ghc15.1 (c := 561) (k := 21) (n := 0) (by decide +kernel)).1 (st_cell ghc15.1 (c := 561) (k := 21) (n := 0) (by decide +kernel)).2.1 (st_ref ghc15.1 (by decide +kernel)) ?_
                refine hd_ipush (z := 1000000000) pkX5_part rfl ?_
                refine hd_callV pkX5_part rfl (q := (KX1_divideSmall, yX1_divideSmall, 1, 1, 0)) rfl rfl rfl (As := [(0, 1000000000)]) (rest := [(1, 1000000000), (1, w17)]) (c := 566) rfl rfl (Nat.le_of_ble_eq_true rfl) (ghc15.s 2 (by decide) (o := 566) rfl).1.1 (ghc15.s 2 (by decide) (o := 566) rfl).1.2.1 ghc15.ds (hd_bI (fun w20 hc18 p19 => ?_))
                have ghc18 : WQ h hc18 := p19.1
                refine hd_i2l pkX5_part rfl ?_
                refine hd_lmul pkX5_part rfl (by omega) ?_
                refine hd_ladd pkX5_part rfl (by omega) ?_
                refine hd_lret pkX5_part rfl ?_
                subst eQ
                exact ⟨rfl, rfl, ghc18, (by show (0 : Int) ≤ (w17 + (1000000000 * w20)) ∧ ((w17 + (1000000000 * w20)) : Int) ≤ 999999999999999999; have := p16.2.1; have := p19.2.1; omega)⟩
              · skip
                refine hd_aload pkX5_part rfl rfl (Int.natCast_nonneg _) ?_
                refine hd_getR (n := 566) pkX5_part rfl (st_cell g29.1 (c := 561) (k := 21) (n := 0) (by decide +kernel)).1 (st_cell g29.1 (c := 561) (k := 21) (n := 0) (by decide +kernel)).2.1 (st_ref g29.1 (by decide +kernel)) ?_
                refine hd_ipush (z := 1000000000) pkX5_part rfl ?_
                refine hd_callV pkX5_part rfl (q := (KX1_divideSmall, yX1_divideSmall, 1, 1, 0)) rfl rfl rfl (As := [(0, 1000000000)]) (rest := []) (c := 566) rfl rfl (Nat.le_of_ble_eq_true rfl) (g29.s 2 (by decide) (o := 566) rfl).1.1 (g29.s 2 (by decide) (o := 566) rfl).1.2.1 g29.ds (hd_bI (fun w23 hc21 p22 => ?_))
                have ghc21 : WQ h hc21 := p22.1
                refine hd_pop pkX5_part rfl rfl ?_
                refine hd_aload pkX5_part rfl rfl (Int.natCast_nonneg _) ?_
                refine hd_getR (n := 566) pkX5_part rfl (st_cell ghc21.1 (c := 561) (k := 21) (n := 0) (by decide +kernel)).1 (st_cell ghc21.1 (c := 561) (k := 21) (n := 0) (by decide +kernel)).2.1 (st_ref ghc21.1 (by decide +kernel)) ?_
                refine hd_ipush (z := 1000000000) pkX5_part rfl ?_
                refine hd_callV pkX5_part rfl (q := (KX1_divideSmall, yX1_divideSmall, 1, 1, 0)) rfl rfl rfl (As := [(0, 1000000000)]) (rest := []) (c := 566) rfl rfl (Nat.le_of_ble_eq_true rfl) (ghc21.s 2 (by decide) (o := 566) rfl).1.1 (ghc21.s 2 (by decide) (o := 566) rfl).1.2.1 ghc21.ds (hd_bI (fun w26 hc24 p25 => ?_))
                have ghc24 : WQ h hc24 := p25.1
                refine hd_pop pkX5_part rfl rfl ?_
                refine hd_iinc (z := (-1)) pkX5_part rfl rfl (by omega) rfl ?_
                change MW _ _ _ _ _ [(2, (0, (k + (-1)))), (0, (2, ((561 : Nat) : Int))), (1, (0, 3))] _ _
                refine hd_goto pkX5_part rfl ?_
                refine m_sub [(0, (2, ((561 : Nat) : Int))), (1, (0, 3)), (2, (0, (k + (-1))))] (List.forall_mem_cons.mpr ⟨rfl, List.forall_mem_cons.mpr ⟨rfl, List.forall_mem_cons.mpr ⟨rfl, fun _ h => absurd h List.not_mem_nil⟩⟩⟩) ?_
                refine ih29  ((k + (-1))) hc24 ghc24 ?_ ?_
                · omega
                · omega
        refine m_sub [(0, (2, ((561 : Nat) : Int))), (1, (0, 3)), (2, (0, pk))] (List.forall_mem_cons.mpr ⟨rfl, List.forall_mem_cons.mpr ⟨rfl, List.forall_mem_cons.mpr ⟨rfl, fun _ h => absurd h List.not_mem_nil⟩⟩⟩) ?_
        refine lp29 (((pk)) + 1).toNat (pk) hc4 ghc4 ?_ ?_
        · omega
        · omega
      · exfalso
        omega
    · exfalso
      omega
  · exfalso
    omega
def M9 : List ZR := [(503, 503, 18, 18), (557, 557, 1, 0), (562, 617, 0, 1099511627775)]
def WR (h x : MH) : Prop := StrZ zT x ∧ Frm M9 h x ∧ FBX9 x
theorem WR.part {h x y : MH} (g : WR h x) (w : WQ x y) : WR h y := ⟨w.1, g.2.1.trans (frm_only2 w.2.1 fun c hc j jb n => by
  simp only [List.mem_cons, List.not_mem_nil, or_false] at hc
  exact absurd (inR (by omega) (by omega) jb) (n _ (List.mem_of_getElem? (i := 2) rfl))), w.2.2⟩
set_option maxRecDepth 20000 in
set_option maxHeartbeats 8000000 in
theorem h_X9_wholeEffect {h : MH} {a b : Int} (g : WR h h) (tell : MCal KX9_tellEffect yX9_tellEffect 0 0 [(2, ((503 : Nat) : Int)), (0, a), (0, b)] h (mRI fun _ h' => WR h h')) : MCal KX9_wholeEffect yX9_wholeEffect 0 0 [(2, ((503 : Nat) : Int)), (0, a), (0, b)] h (mRL fun _ h' => WR h h') := by
  refine MCal.ofMW (Or.inl rfl) ⟨cp_X9, rfl⟩ (Nat.le_of_ble_eq_true rfl) ?_
  generalize eQ : (mRL fun _ h' => WR h h' : MO → MH → Prop) = Q
  change MW KX9_wholeEffect Q 0 0 (pcA pgX9_wholeEffect 0) [(0, (2, ((503 : Nat) : Int))), (1, (0, a)), (2, (0, b))] [] h
  refine hd_aload pkX9_wholeEffect rfl rfl (Int.natCast_nonneg _) ?_
  refine hd_iload pkX9_wholeEffect rfl rfl ?_
  refine hd_iload pkX9_wholeEffect rfl rfl ?_
  refine hd_callV pkX9_wholeEffect rfl (q := (KX9_tellEffect, yX9_tellEffect, 9, 2, 0)) rfl rfl rfl (As := [(0, a), (0, b)]) (rest := []) (c := 503) rfl rfl (Nat.le_of_ble_eq_true rfl) (st_cell g.1 (c := 503) (k := 25) (n := 0) (by decide +kernel)).1 (st_cell g.1 (c := 503) (k := 25) (n := 0) (by decide +kernel)).2.1 tell (hd_bI (fun w3 hc1 p2 => ?_))
  have ghc1 : WR h hc1 := p2
  refine hd_if_eq pkX9_wholeEffect rfl (fun c4 => ?_) (fun c4 => ?_)
  · skip
    refine hd_lpush (z := (-9000000000000000000)) pkX9_wholeEffect rfl ?_
    refine hd_lret pkX9_wholeEffect rfl ?_
    subst eQ
    exact ⟨rfl, rfl, ghc1⟩
  · skip
    refine hd_aload pkX9_wholeEffect rfl rfl (Int.natCast_nonneg _) ?_
    refine hd_getR (n := 561) pkX9_wholeEffect rfl (st_cell ghc1.1 (c := 503) (k := 25) (n := 0) (by decide +kernel)).1 (st_cell ghc1.1 (c := 503) (k := 25) (n := 0) (by decide +kernel)).2.1 (st_ref ghc1.1 (by decide +kernel)) ?_
    refine hd_ipush (z := 2) pkX9_wholeEffect rfl ?_
    refine hd_callV pkX9_wholeEffect rfl (q := (KX5_part, yX5_part, 5, 1, 0)) rfl rfl rfl (As := [(0, 2)]) (rest := []) (c := 561) rfl rfl (Nat.le_of_ble_eq_true rfl) (st_cell ghc1.1 (c := 561) (k := 21) (n := 0) (by decide +kernel)).1 (st_cell ghc1.1 (c := 561) (k := 21) (n := 0) (by decide +kernel)).2.1 (h_X5_part2 ghc1.1 ghc1.2.2) (hd_bL (fun w7 hc5 p6 => ?_))
    have ghc5 : WR h hc5 := ghc1.part p6.1
    refine hd_lpush (z := 0) pkX9_wholeEffect rfl ?_
    refine hd_lc_ne pkX9_wholeEffect rfl (fun c8 => ?_) (fun c8 => ?_)
    · skip
      refine hd_lpush (z := (-9000000000000000000)) pkX9_wholeEffect rfl ?_
      refine hd_lret pkX9_wholeEffect rfl ?_
      subst eQ
      exact ⟨rfl, rfl, ghc5⟩
    · skip
      refine hd_aload pkX9_wholeEffect rfl rfl (Int.natCast_nonneg _) ?_
      refine hd_getR (n := 561) pkX9_wholeEffect rfl (st_cell ghc5.1 (c := 503) (k := 25) (n := 0) (by decide +kernel)).1 (st_cell ghc5.1 (c := 503) (k := 25) (n := 0) (by decide +kernel)).2.1 (st_ref ghc5.1 (by decide +kernel)) ?_
      refine hd_ipush (z := 3) pkX9_wholeEffect rfl ?_
      refine hd_callV pkX9_wholeEffect rfl (q := (KX5_part, yX5_part, 5, 1, 0)) rfl rfl rfl (As := [(0, 3)]) (rest := []) (c := 561) rfl rfl (Nat.le_of_ble_eq_true rfl) (st_cell ghc5.1 (c := 561) (k := 21) (n := 0) (by decide +kernel)).1 (st_cell ghc5.1 (c := 561) (k := 21) (n := 0) (by decide +kernel)).2.1 (h_X5_part3 ghc5.1 ghc5.2.2) (hd_bL (fun w11 hc9 p10 => ?_))
      have ghc9 : WR h hc9 := ghc5.part p10.1
      refine hd_lpush (z := 0) pkX9_wholeEffect rfl ?_
      refine hd_lc_ne pkX9_wholeEffect rfl (fun c12 => ?_) (fun c12 => ?_)
      · skip
        refine hd_lpush (z := (-9000000000000000000)) pkX9_wholeEffect rfl ?_
        refine hd_lret pkX9_wholeEffect rfl ?_
        subst eQ
        exact ⟨rfl, rfl, ghc9⟩
      · skip
        refine hd_aload pkX9_wholeEffect rfl rfl (Int.natCast_nonneg _) ?_
        refine hd_getR (n := 561) pkX9_wholeEffect rfl (st_cell ghc9.1 (c := 503) (k := 25) (n := 0) (by decide +kernel)).1 (st_cell ghc9.1 (c := 503) (k := 25) (n := 0) (by decide +kernel)).2.1 (st_ref ghc9.1 (by decide +kernel)) ?_
        refine hd_ipush (z := 1) pkX9_wholeEffect rfl ?_
        refine hd_callV pkX9_wholeEffect rfl (q := (KX5_part, yX5_part, 5, 1, 0)) rfl rfl rfl (As := [(0, 1)]) (rest := []) (c := 561) rfl rfl (Nat.le_of_ble_eq_true rfl) (st_cell ghc9.1 (c := 561) (k := 21) (n := 0) (by decide +kernel)).1 (st_cell ghc9.1 (c := 561) (k := 21) (n := 0) (by decide +kernel)).2.1 (h_X5_part1 ghc9.1 ghc9.2.2) (hd_bL (fun w15 hc13 p14 => ?_))
        have ghc13 : WR h hc13 := ghc9.part p14.1
        refine hd_lpush (z := 1) pkX9_wholeEffect rfl ?_
        refine hd_lc_ge pkX9_wholeEffect rfl (fun c16 => ?_) (fun c16 => ?_)
        · skip
          refine hd_aload pkX9_wholeEffect rfl rfl (Int.natCast_nonneg _) ?_
          refine hd_getR (n := 561) pkX9_wholeEffect rfl (st_cell ghc13.1 (c := 503) (k := 25) (n := 0) (by decide +kernel)).1 (st_cell ghc13.1 (c := 503) (k := 25) (n := 0) (by decide +kernel)).2.1 (st_ref ghc13.1 (by decide +kernel)) ?_
          refine hd_ipush (z := (-1)) pkX9_wholeEffect rfl ?_
          refine hd_callV pkX9_wholeEffect rfl (q := (KX5_part, yX5_part, 5, 1, 0)) rfl rfl rfl (As := [(0, (-1))]) (rest := []) (c := 561) rfl rfl (Nat.le_of_ble_eq_true rfl) (st_cell ghc13.1 (c := 561) (k := 21) (n := 0) (by decide +kernel)).1 (st_cell ghc13.1 (c := 561) (k := 21) (n := 0) (by decide +kernel)).2.1 (h_X5_partm1 ghc13.1 ghc13.2.2) (hd_bL (fun w19 hc17 p18 => ?_))
          have ghc17 : WR h hc17 := ghc13.part p18.1
          refine hd_aload pkX9_wholeEffect rfl rfl (Int.natCast_nonneg _) ?_
          refine hd_getR (n := 561) pkX9_wholeEffect rfl (st_cell ghc17.1 (c := 503) (k := 25) (n := 0) (by decide +kernel)).1 (st_cell ghc17.1 (c := 503) (k := 25) (n := 0) (by decide +kernel)).2.1 (st_ref ghc17.1 (by decide +kernel)) ?_
          refine hd_ipush (z := 0) pkX9_wholeEffect rfl ?_
          refine hd_callV pkX9_wholeEffect rfl (q := (KX5_part, yX5_part, 5, 1, 0)) rfl rfl rfl (As := [(0, 0)]) (rest := [(1, w19)]) (c := 561) rfl rfl (Nat.le_of_ble_eq_true rfl) (st_cell ghc17.1 (c := 561) (k := 21) (n := 0) (by decide +kernel)).1 (st_cell ghc17.1 (c := 561) (k := 21) (n := 0) (by decide +kernel)).2.1 (h_X5_part0 ghc17.1 ghc17.2.2) (hd_bL (fun w22 hc20 p21 => ?_))
          have ghc20 : WR h hc20 := ghc17.part p21.1
          refine hd_aload pkX9_wholeEffect rfl rfl (Int.natCast_nonneg _) ?_
          refine hd_getR (n := 561) pkX9_wholeEffect rfl (st_cell ghc20.1 (c := 503) (k := 25) (n := 0) (by decide +kernel)).1 (st_cell ghc20.1 (c := 503) (k := 25) (n := 0) (by decide +kernel)).2.1 (st_ref ghc20.1 (by decide +kernel)) ?_
          refine hd_ipush (z := 1) pkX9_wholeEffect rfl ?_
          refine hd_callV pkX9_wholeEffect rfl (q := (KX5_part, yX5_part, 5, 1, 0)) rfl rfl rfl (As := [(0, 1)]) (rest := [(1, w22), (1, w19)]) (c := 561) rfl rfl (Nat.le_of_ble_eq_true rfl) (st_cell ghc20.1 (c := 561) (k := 21) (n := 0) (by decide +kernel)).1 (st_cell ghc20.1 (c := 561) (k := 21) (n := 0) (by decide +kernel)).2.1 (h_X5_part1 ghc20.1 ghc20.2.2) (hd_bL (fun w25 hc23 p24 => ?_))
          have ghc23 : WR h hc23 := ghc20.part p24.1
          have o9 : Only [566, 567] hc9 hc20 := p14.1.2.1.trans (p18.1.2.1.trans p21.1.2.1)
          have e9 : w25 = w15 := by rw [p24.2.2, p14.2.2, onlyF o9 (by decide), onlyF o9 (by decide)]
          have dv := tdiv0 (x := w22) (y := w25) p21.2.1 (by omega)
          have b3 := p21.2
          refine hd_ldiv pkX9_wholeEffect rfl (by omega) (by omega) ?_
          refine hd_lmulW pkX9_wholeEffect rfl ?_
          refine hd_lret pkX9_wholeEffect rfl ?_
          subst eQ
          exact ⟨rfl, rfl, ghc23⟩
        · skip
          refine hd_lpush (z := (-9000000000000000000)) pkX9_wholeEffect rfl ?_
          refine hd_lret pkX9_wholeEffect rfl ?_
          subst eQ
          exact ⟨rfl, rfl, ghc13⟩
