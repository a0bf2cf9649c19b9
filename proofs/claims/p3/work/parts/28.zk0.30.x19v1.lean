set_option maxRecDepth 20000 in
set_option maxHeartbeats 8000000 in
theorem h_X19_plain {h : MH} {a : Int} (ha : -1000000 ≤ a ∧ a ≤ 1000000) (g : Str t19 r19 h) : MCal KX19_plain yX19_plain 0 0 [(1, a)] h (mRL fun v h' => v = pa a ∧ h' = h) := by
  refine MCal.ofMW (Or.inl rfl) ⟨cp_X19, rfl⟩ (Nat.le_of_ble_eq_true rfl) ?_
  generalize eQ : (mRL fun v h' => v = pa a ∧ h' = h : MO → MH → Prop) = Q
  change MW KX19_plain Q 0 0 (pcA pgX19_plain 0) [(0, (1, a))] [] h
  refine hd_locL (i := 0) rfl (fun ra => ?_)
  refine hd_lload pkX19_plain rfl rfl ?_
  refine hd_lpush (z := 0) pkX19_plain rfl ?_
  refine hd_lc_ge pkX19_plain rfl (fun c1 => ?_) (fun c1 => ?_)
  · skip
    refine hd_lload pkX19_plain rfl rfl ?_
    refine hd_lret pkX19_plain rfl ?_
    subst eQ
    refine ⟨rfl, rfl, ?_, rfl⟩
    show a = pa a
    unfold pa
    rw [if_neg (by omega)]
  · skip
    refine hd_lload pkX19_plain rfl rfl ?_
    refine hd_lneg pkX19_plain rfl (by omega) ?_
    refine hd_goto pkX19_plain rfl ?_
    refine hd_lret pkX19_plain rfl ?_
    subst eQ
    refine ⟨rfl, rfl, ?_, rfl⟩
    show (-a) = pa a
    unfold pa
    rw [if_pos (by omega)]
set_option maxRecDepth 20000 in
set_option maxHeartbeats 8000000 in
theorem h_X19_area {h : MH} {cn : Int} (sn : S19 h cn) (g : Str t19 r19 h) : MCal KX19_area yX19_area 0 0 [(2, ((2514 : Nat) : Int))] h (mRV fun h' => Ch 140 2515 2516 [17, 18, 19, 20, 21, 22, 23, 24, 25] h h' ∧ Hr 140 2515 2516 h' 17 18 (arQ (ga h 2517) (ga h 2518) (ga h 2519) (cn - 1).toNat) ∧ Ad (cn - 1).toNat (arQ (ga h 2517) (ga h 2518) (ga h 2519) (cn - 1).toNat)) := by
  refine MCal.ofMW (Or.inl rfl) ⟨cp_X19, rfl⟩ (Nat.le_of_ble_eq_true rfl) ?_
  generalize eQ : (mRV fun h' => Ch 140 2515 2516 [17, 18, 19, 20, 21, 22, 23, 24, 25] h h' ∧ Hr 140 2515 2516 h' 17 18 (arQ (ga h 2517) (ga h 2518) (ga h 2519) (cn - 1).toNat) ∧ Ad (cn - 1).toNat (arQ (ga h 2517) (ga h 2518) (ga h 2519) (cn - 1).toNat) : MO → MH → Prop) = Q
  change MW KX19_area Q 0 0 (pcA pgX19_area 0) [(0, (2, ((2514 : Nat) : Int)))] [] h
  have cb := sn.1.2.1
  have hC : Ch 140 2515 2516 [17, 18, 19, 20, 21, 22, 23, 24, 25] h h := Ch.refl _ _ _ _ _
  refine hd_aload pkX19_area rfl rfl (Int.natCast_nonneg _) ?_
  refine hd_ipush (z := 17) pkX19_area rfl ?_
  refine hd_lpush (z := 0) pkX19_area rfl ?_
  refine hd_callV pkX19_area rfl (q := (KX19_small, yX19_small, 19, 2, 0)) rfl rfl rfl (As := [(0, 17), (1, 0)]) (rest := []) (c := 2514) rfl rfl (Nat.le_of_ble_eq_true rfl) (g.cell 0 rfl).1 (g.cell 0 rfl).2.1 (h_X19_small (by decide) (by decide) (by decide) g) (hd_bV (fun hc1 ps => ?_))
  have ghc1 : Str t19 r19 hc1 := g.only ps.1.1 (by decide)
  have hC := hC.trans (ps.1.mono (by decide))
  have nA := nv_small ps
  refine hd_aload pkX19_area rfl rfl (Int.natCast_nonneg _) ?_
  refine hd_ipush (z := 18) pkX19_area rfl ?_
  refine hd_lpush (z := 1) pkX19_area rfl ?_
  refine hd_callV pkX19_area rfl (q := (KX19_small, yX19_small, 19, 2, 0)) rfl rfl rfl (As := [(0, 18), (1, 1)]) (rest := []) (c := 2514) rfl rfl (Nat.le_of_ble_eq_true rfl) (ghc1.cell 0 rfl).1 (ghc1.cell 0 rfl).2.1 (h_X19_small (by decide) (by decide) (by decide) ghc1) (hd_bV (fun hc2 ps => ?_))
  have ghc2 : Str t19 r19 hc2 := ghc1.only ps.1.1 (by decide)
  have hC := hC.trans (ps.1.mono (by decide))
  have nA := nA.keep (by decide) ps.1 (by decide) (nm1 (by decide))
  have VR : Hr 140 2515 2516 hc2 17 18 0 := ⟨nA, nv_small ps, by decide⟩
  refine hd_ipush (z := 0) pkX19_area rfl ?_
  refine hd_istore pkX19_area rfl rfl ?_
  change MW _ _ _ _ _ [(1, (0, 0)), (0, (2, ((2514 : Nat) : Int)))] _ _
  have lp10 : ∀ (N10 : Nat) (k : Int) (hk : MH), Str t19 r19 hk → (Ch 140 2515 2516 [17, 18, 19, 20, 21, 22, 23, 24, 25] h hk) → (0 ≤ k ∧ (k ≤ cn - 1 ∨ k = 0)) → (Hr 140 2515 2516 hk 17 18 (arQ (ga h 2517) (ga h 2518) (ga h 2519) k.toNat)) → (Ad k.toNat (arQ (ga h 2517) (ga h 2518) (ga h 2519) k.toNat)) → cn + 1 - k < (N10 : Int) → MW KX19_area Q 0 0 (pcA pgX19_area 10) [(0, (2, ((2514 : Nat) : Int))), (1, (0, k))] [] hk := by
    intro N10
    induction N10 with
    | zero => intro k hk g10 hC k0 VR ad hm10; exfalso; omega
    | succ N10 ih10 =>
      intro k hk g10 hC k0 VR ad hm10
      refine hd_iload pkX19_area rfl rfl ?_
      refine hd_ipush (z := 1) pkX19_area rfl ?_
      refine hd_iadd pkX19_area rfl (by omega) ?_
      refine hd_aload pkX19_area rfl rfl (Int.natCast_nonneg _) ?_
      refine hd_getI pkX19_area rfl (g10.cell 0 rfl).1 (g10.cell 0 rfl).2.1 (fun v3 ev3 rv3 => ?_)
      have qv3 : cn = v3 := by rw [ev3]; exact ((hC.1.ga (by decide) _).trans sn.1.1).symm
      subst qv3
      refine hd_ic_ge pkX19_area rfl (fun c4 => ?_) (fun c4 => ?_)
      · skip
        refine hd_vret pkX19_area rfl ?_
        subst eQ
        rw [show k.toNat = (cn - 1).toNat by omega] at VR ad
        exact ⟨rfl, hC, VR, ad⟩
      · skip
        refine hd_aload pkX19_area rfl rfl (Int.natCast_nonneg _) ?_
        refine hd_getR (n := 2517) pkX19_area rfl (g10.cell 0 rfl).1 (g10.cell 0 rfl).2.1 (g10.ref 2 rfl) ?_
        refine hd_iload pkX19_area rfl rfl ?_
        refine hd_ipush (z := 1) pkX19_area rfl ?_
        refine hd_iadd pkX19_area rfl (by omega) ?_
        refine hd_iald (n := 14) pkX19_area rfl (g10.cell 3 rfl) (by omega) (by omega) (fun v5 ev5 rv5 => ?_)
        obtain ⟨pn, qv5⟩ : ∃ x : Int, x = v5 := ⟨_, rfl⟩
        have epn : pn = ga h 2517 (k + 1) := qv5.trans (ev5.trans (hC.1.ga (by decide) _))
        have bpn := (sn.1.2.2.1 (k + 1) (by omega) (by omega)).1
        rw [← epn] at bpn
        subst qv5
        refine hd_aload pkX19_area rfl rfl (Int.natCast_nonneg _) ?_
        refine hd_getR (n := 2517) pkX19_area rfl (g10.cell 0 rfl).1 (g10.cell 0 rfl).2.1 (g10.ref 2 rfl) ?_
        refine hd_iload pkX19_area rfl rfl ?_
        refine hd_iald (n := 14) pkX19_area rfl (g10.cell 3 rfl) (by omega) (by omega) (fun v6 ev6 rv6 => ?_)
        obtain ⟨pk, qv6⟩ : ∃ x : Int, x = v6 := ⟨_, rfl⟩
        have epk : pk = ga h 2517 (k) := qv6.trans (ev6.trans (hC.1.ga (by decide) _))
        have bpk := (sn.1.2.2.1 (k) (by omega) (by omega)).1
        rw [← epk] at bpk
        subst qv6
        refine hd_isub pkX19_area rfl (by omega) ?_
        generalize eln : (pn - pk) = ln
        have lb9 : 1 ≤ ln ∧ ln ≤ 400 := by
          have q := sn.1.2.2.2 k (k + 1) (by omega) (by omega) (by omega)
          rw [← epn, ← epk] at q
          omega
        refine hd_i2l pkX19_area rfl ?_
        refine hd_lstore pkX19_area rfl rfl ?_
        change MW _ _ _ _ _ [(2, (1, ln)), (0, (2, ((2514 : Nat) : Int))), (1, (0, k))] _ _
        refine hd_aload pkX19_area rfl rfl (Int.natCast_nonneg _) ?_
        refine hd_getR (n := 2518) pkX19_area rfl (g10.cell 0 rfl).1 (g10.cell 0 rfl).2.1 (g10.ref 3 rfl) ?_
        refine hd_iload pkX19_area rfl rfl ?_
        refine hd_lald (n := 14) pkX19_area rfl (g10.cell 4 rfl) (by omega) (by omega) (fun v7 ev7 rv7 => ?_)
        obtain ⟨a, qv7⟩ : ∃ x : Int, x = v7 := ⟨_, rfl⟩
        have ea : a = ga h 2518 (k) := qv7.trans (ev7.trans (hC.1.ga (by decide) _))
        have ba := (sn.1.2.2.1 (k) (by omega) (by omega)).2.1
        rw [← ea] at ba
        subst qv7
        refine hd_lstore pkX19_area rfl rfl ?_
        change MW _ _ _ _ _ [(4, (1, a)), (2, (1, ln)), (0, (2, ((2514 : Nat) : Int))), (1, (0, k))] _ _
        refine hd_aload pkX19_area rfl rfl (Int.natCast_nonneg _) ?_
        refine hd_getR (n := 2519) pkX19_area rfl (g10.cell 0 rfl).1 (g10.cell 0 rfl).2.1 (g10.ref 4 rfl) ?_
        refine hd_iload pkX19_area rfl rfl ?_
        refine hd_lald (n := 14) pkX19_area rfl (g10.cell 5 rfl) (by omega) (by omega) (fun v8 ev8 rv8 => ?_)
        obtain ⟨b, qv8⟩ : ∃ x : Int, x = v8 := ⟨_, rfl⟩
        have eb : b = ga h 2519 (k) := qv8.trans (ev8.trans (hC.1.ga (by decide) _))
        have bb := (sn.1.2.2.1 (k) (by omega) (by omega)).2.2
        rw [← eb] at bb
        subst qv8
        refine hd_lstore pkX19_area rfl rfl ?_
        change MW _ _ _ _ _ [(6, (1, b)), (4, (1, a)), (2, (1, ln)), (0, (2, ((2514 : Nat) : Int))), (1, (0, k))] _ _
        refine hd_aload pkX19_area rfl rfl (Int.natCast_nonneg _) ?_
        refine hd_getR (n := 2518) pkX19_area rfl (g10.cell 0 rfl).1 (g10.cell 0 rfl).2.1 (g10.ref 3 rfl) ?_
        refine hd_iload pkX19_area rfl rfl ?_
        refine hd_ipush (z := 1) pkX19_area rfl ?_
        refine hd_iadd pkX19_area rfl (by omega) ?_
        refine hd_lald (n := 14) pkX19_area rfl (g10.cell 4 rfl) (by omega) (by omega) (fun v9 ev9 rv9 => ?_)
        obtain ⟨c, qv9⟩ : ∃ x : Int, x = v9 := ⟨_, rfl⟩
        have ec : c = ga h 2518 (k + 1) := qv9.trans (ev9.trans (hC.1.ga (by decide) _))
        have bc := (sn.1.2.2.1 (k + 1) (by omega) (by omega)).2.1
        rw [← ec] at bc
        subst qv9
        refine hd_lstore pkX19_area rfl rfl ?_
        change MW _ _ _ _ _ [(8, (1, c)), (6, (1, b)), (4, (1, a)), (2, (1, ln)), (0, (2, ((2514 : Nat) : Int))), (1, (0, k))] _ _
        refine hd_aload pkX19_area rfl rfl (Int.natCast_nonneg _) ?_
        refine hd_getR (n := 2519) pkX19_area rfl (g10.cell 0 rfl).1 (g10.cell 0 rfl).2.1 (g10.ref 4 rfl) ?_
        refine hd_iload pkX19_area rfl rfl ?_
        refine hd_ipush (z := 1) pkX19_area rfl ?_
        refine hd_iadd pkX19_area rfl (by omega) ?_
        refine hd_lald (n := 14) pkX19_area rfl (g10.cell 5 rfl) (by omega) (by omega) (fun v10 ev10 rv10 => ?_)
        obtain ⟨d, qv10⟩ : ∃ x : Int, x = v10 := ⟨_, rfl⟩
        have ed : d = ga h 2519 (k + 1) := qv10.trans (ev10.trans (hC.1.ga (by decide) _))
        have bd := (sn.1.2.2.1 (k + 1) (by omega) (by omega)).2.2
        rw [← ed] at bd
        subst qv10
        refine hd_lstore pkX19_area rfl rfl ?_
        change MW _ _ _ _ _ [(10, (1, d)), (8, (1, c)), (6, (1, b)), (4, (1, a)), (2, (1, ln)), (0, (2, ((2514 : Nat) : Int))), (1, (0, k))] _ _
        refine hd_lload pkX19_area rfl rfl ?_
        refine hd_callS pkX19_area rfl (q := (KX19_plain, yX19_plain, 19, 1, 1)) rfl rfl rfl (As := [(1, a)]) (rest := []) rfl rfl (Nat.le_of_ble_eq_true rfl) rfl (h_X19_plain ba g10) (hd_bL (fun p1 hc11 pp1 => ?_))
        obtain ⟨pp1, ehc11⟩ := pp1
        replace ehc11 := ehc11.symm
        subst ehc11
        subst pp1
        refine hd_lload pkX19_area rfl rfl ?_
        refine hd_lmul pkX19_area rfl (by have := mul_b (pa_b ba) (show 0 ≤ d ∧ d ≤ 1000 by omega); omega) ?_
        refine hd_lload pkX19_area rfl rfl ?_
        refine hd_callS pkX19_area rfl (q := (KX19_plain, yX19_plain, 19, 1, 1)) rfl rfl rfl (As := [(1, c)]) (rest := [(1, (pa a * d))]) rfl rfl (Nat.le_of_ble_eq_true rfl) rfl (h_X19_plain bc g10) (hd_bL (fun p2 hc12 pp2 => ?_))
        obtain ⟨pp2, ehc12⟩ := pp2
        replace ehc12 := ehc12.symm
        subst ehc12
        subst pp2
        refine hd_lload pkX19_area rfl rfl ?_
        refine hd_lmul pkX19_area rfl (by have := mul_b (pa_b bc) (show 0 ≤ b ∧ b ≤ 1000 by omega); omega) ?_
        refine hd_ladd pkX19_area rfl (by have q := cr_b ba bb bc bd; have q2 : crQ a b c d = pa a * d + pa c * b := rfl; omega) ?_
        generalize ecr : ((pa a * d) + (pa c * b)) = cr
        have ecr2 : cr = crQ a b c d := ecr.symm
        have q9 := cr_b ba bb bc bd
        rw [← ecr2] at q9
        have pb := pc_b lb9 ba bb bc bd
        have cut148 : ∀ (_ : True) (hj148 : MH), Str t19 r19 hj148 → (Ch 140 2515 2516 [17, 18, 19, 20, 21, 22, 23, 24, 25] h hj148) → (Hr 140 2515 2516 hj148 17 18 (arQ (ga h 2517) (ga h 2518) (ga h 2519) k.toNat)) → (Pr 140 2515 2516 hj148 19 20 (pcU ln a b c d) (pcD a b c d)) → MW KX19_area Q 0 0 (pcA pgX19_area 148) [(0, (2, ((2514 : Nat) : Int))), (1, (0, k))] [] hj148 := by
          intro _ hj148 gc148 hC VR PP
          refine hd_aload pkX19_area rfl rfl (Int.natCast_nonneg _) ?_
          refine hd_ipush (z := 17) pkX19_area rfl ?_
          refine hd_ipush (z := 18) pkX19_area rfl ?_
          refine hd_ipush (z := 19) pkX19_area rfl ?_
          refine hd_ipush (z := 20) pkX19_area rfl ?_
          have bR := ad.sz (by omega)
          refine hd_callV pkX19_area rfl (q := (KX19_addFraction, yX19_addFraction, 19, 4, 0)) rfl rfl rfl (As := [(0, 17), (0, 18), (0, 19), (0, 20)]) (rest := []) (c := 2514) rfl rfl (Nat.le_of_ble_eq_true rfl) (gc148.cell 0 rfl).1 (gc148.cell 0 rfl).2.1 (h_X19_addFraction (m1 := 29) (m2 := 3) (by decide) (by decide) (by decide) (by decide) (by decide) (by decide) (by decide) (by decide) (by decide) (by decide) (by decide) (by decide) (by decide) VR PP bR.1 bR.2 (pw3 ⟨by omega, by omega⟩) (PW_up (pw2 (by omega)) (by decide)) (by decide) gc148) (hd_bV (fun hc13 pa => ?_))
          have ghc13 : Str t19 r19 hc13 := gc148.only pa.1.1 (by decide)
          have hC := hC.trans (pa.1.mono (by decide))
          have eq9 : Rat.divInt (pcU ln a b c d) (pcD a b c d) = pcQ (ga h 2517) (ga h 2518) (ga h 2519) (k.toNat : Nat) := by
            unfold pcQ
            rw [show ((k.toNat : Nat) : Int) = k by omega, ← epn, ← epk, ← ea, ← eb, ← ec, ← ed, eln]
          have es9 : arQ (ga h 2517) (ga h 2518) (ga h 2519) (k + 1).toNat = arQ (ga h 2517) (ga h 2518) (ga h 2519) k.toNat + Rat.divInt (pcU ln a b c d) (pcD a b c d) := by
            rw [show (k + 1).toNat = k.toNat + 1 by omega, eq9]
            rfl
          have adN : Ad (k + 1).toNat (arQ (ga h 2517) (ga h 2518) (ga h 2519) (k + 1).toNat) := by
            rw [es9, show (k + 1).toNat = k.toNat + 1 by omega]
            exact ad.add pb.1 pb.2.1.1 pb.2.2
          have VR := pa.2.r (fr_sum (r := arQ (ga h 2517) (ga h 2518) (ga h 2519) k.toNat) pb.1.1)
          rw [← es9] at VR
          refine hd_iinc (z := 1) pkX19_area rfl rfl (by omega) rfl ?_
          change MW _ _ _ _ _ [(1, (0, (k + 1))), (0, (2, ((2514 : Nat) : Int)))] _ _
          refine hd_goto pkX19_area rfl ?_
          refine m_sub [(0, (2, ((2514 : Nat) : Int))), (1, (0, (k + 1)))] (List.forall_mem_cons.mpr ⟨rfl, List.forall_mem_cons.mpr ⟨rfl, fun _ h => absurd h List.not_mem_nil⟩⟩) ?_
          refine ih10  ((k + 1)) hc13 ghc13 ?_ ?_ ?_ ?_ ?_
          · exact hC
          · omega
          · exact VR
          · exact adN
          · omega
        refine hd_lstore pkX19_area rfl rfl ?_
        change MW _ _ _ _ _ [(12, (1, cr)), (10, (1, d)), (8, (1, c)), (6, (1, b)), (4, (1, a)), (2, (1, ln)), (0, (2, ((2514 : Nat) : Int))), (1, (0, k))] _ _
        have cut90 : ∀ (_ : True), (¬(0 < a ∧ c < 0)) → MW KX19_area Q 0 0 (pcA pgX19_area 90) [(0, (2, ((2514 : Nat) : Int))), (1, (0, k)), (2, (1, ln)), (4, (1, a)), (6, (1, b)), (8, (1, c)), (10, (1, d)), (12, (1, cr))] [] hk := by
          intro _ n1
          have cut117 : ∀ (_ : True), (¬(a < 0 ∧ 0 < c)) → MW KX19_area Q 0 0 (pcA pgX19_area 117) [(0, (2, ((2514 : Nat) : Int))), (1, (0, k)), (2, (1, ln)), (4, (1, a)), (6, (1, b)), (8, (1, c)), (10, (1, d)), (12, (1, cr))] [] hk := by
            intro _ n2
            have cut125 : ∀ (_ : True), (0 < a ∨ 0 < c) → MW KX19_area Q 0 0 (pcA pgX19_area 125) [(0, (2, ((2514 : Nat) : Int))), (1, (0, k)), (2, (1, ln)), (4, (1, a)), (6, (1, b)), (8, (1, c)), (10, (1, d)), (12, (1, cr))] [] hk := by
              intro _ n3
              refine hd_aload pkX19_area rfl rfl (Int.natCast_nonneg _) ?_
              refine hd_ipush (z := 19) pkX19_area rfl ?_
              refine hd_lload pkX19_area rfl rfl ?_
              refine hd_lload pkX19_area rfl rfl ?_
              refine hd_lmul pkX19_area rfl (by have q := mul_b (show 0 ≤ ln ∧ ln ≤ 400 by omega) (show 0 ≤ cr ∧ cr ≤ 2000000000 by omega); omega) ?_
              refine hd_callV pkX19_area rfl (q := (KX19_small, yX19_small, 19, 2, 0)) rfl rfl rfl (As := [(0, 19), (1, (ln * cr))]) (rest := []) (c := 2514) rfl rfl (Nat.le_of_ble_eq_true rfl) (g10.cell 0 rfl).1 (g10.cell 0 rfl).2.1 (h_X19_small (by decide) (by decide) (by have q := mul_b (show 0 ≤ ln ∧ ln ≤ 400 by omega) (show 0 ≤ cr ∧ cr ≤ 2000000000 by omega); omega) g10) (hd_bV (fun hc14 ps => ?_))
              have ghc14 : Str t19 r19 hc14 := g10.only ps.1.1 (by decide)
              have hC := hC.trans (ps.1.mono (by decide))
              have VR := VR.keep (by decide) ps.1 (by decide) (by decide) (by decide) (by decide)
              have nU := nv_small ps
              refine hd_aload pkX19_area rfl rfl (Int.natCast_nonneg _) ?_
              refine hd_ipush (z := 20) pkX19_area rfl ?_
              refine hd_lpush (z := 2) pkX19_area rfl ?_
              refine hd_lload pkX19_area rfl rfl ?_
              refine hd_lmul pkX19_area rfl (by omega) ?_
              refine hd_lload pkX19_area rfl rfl ?_
              refine hd_lmul pkX19_area rfl (by have q := mul_b (show 0 ≤ b ∧ b ≤ 1000 by omega) (show 0 ≤ d ∧ d ≤ 1000 by omega); have w : 2 * b * d = 2 * (b * d) := Int.mul_assoc ..; omega) ?_
              refine hd_callV pkX19_area rfl (q := (KX19_small, yX19_small, 19, 2, 0)) rfl rfl rfl (As := [(0, 20), (1, ((2 * b) * d))]) (rest := []) (c := 2514) rfl rfl (Nat.le_of_ble_eq_true rfl) (ghc14.cell 0 rfl).1 (ghc14.cell 0 rfl).2.1 (h_X19_small (by decide) (by decide) (by have q := mul_b (show 0 ≤ b ∧ b ≤ 1000 by omega) (show 0 ≤ d ∧ d ≤ 1000 by omega); have w : 2 * b * d = 2 * (b * d) := Int.mul_assoc ..; omega) ghc14) (hd_bV (fun hc15 ps => ?_))
              have ghc15 : Str t19 r19 hc15 := ghc14.only ps.1.1 (by decide)
              have hC := hC.trans (ps.1.mono (by decide))
              have VR := VR.keep (by decide) ps.1 (by decide) (by decide) (by decide) (by decide)
              have nU := nU.keep (by decide) ps.1 (by decide) (nm1 (by decide))
              have nD := nv_small ps
              refine hd_goto pkX19_area rfl ?_
              refine m_sub [(0, (2, ((2514 : Nat) : Int))), (1, (0, k))] (List.forall_mem_cons.mpr ⟨rfl, List.forall_mem_cons.mpr ⟨rfl, fun _ h => absurd h List.not_mem_nil⟩⟩) ?_
              refine cut148 trivial hc15 ghc15 ?_ ?_ ?_
              · exact hC
              · exact VR
              · refine ⟨?_, ?_, pb.1.1⟩
                · have e9 : pcU ln a b c d = ln * crQ a b c d := by
                    unfold pcU
                    rw [if_neg (by omega), if_neg (by omega), if_pos (by omega)]
                  rw [e9, ← ecr2]
                  exact nU
                · have e9 : pcD a b c d = 2 * b * d := by
                    unfold pcD
                    rw [if_neg (by omega), if_neg (by omega), if_pos (by omega)]
                  rw [e9]
                  exact nD
            refine hd_lload pkX19_area rfl rfl ?_
            refine hd_lpush (z := 0) pkX19_area rfl ?_
            refine hd_lc_gt pkX19_area rfl (fun c16 => ?_) (fun c16 => ?_)
            · skip
              refine cut125 trivial ?_
              · omega
            · skip
              refine hd_lload pkX19_area rfl rfl ?_
              refine hd_lpush (z := 0) pkX19_area rfl ?_
              refine hd_lc_le pkX19_area rfl (fun c17 => ?_) (fun c17 => ?_)
              · skip
                refine hd_aload pkX19_area rfl rfl (Int.natCast_nonneg _) ?_
                refine hd_ipush (z := 19) pkX19_area rfl ?_
                refine hd_lpush (z := 0) pkX19_area rfl ?_
                refine hd_callV pkX19_area rfl (q := (KX19_small, yX19_small, 19, 2, 0)) rfl rfl rfl (As := [(0, 19), (1, 0)]) (rest := []) (c := 2514) rfl rfl (Nat.le_of_ble_eq_true rfl) (g10.cell 0 rfl).1 (g10.cell 0 rfl).2.1 (h_X19_small (by decide) (by decide) (by decide) g10) (hd_bV (fun hc18 ps => ?_))
                have ghc18 : Str t19 r19 hc18 := g10.only ps.1.1 (by decide)
                have hC := hC.trans (ps.1.mono (by decide))
                have VR := VR.keep (by decide) ps.1 (by decide) (by decide) (by decide) (by decide)
                have nU := nv_small ps
                refine hd_aload pkX19_area rfl rfl (Int.natCast_nonneg _) ?_
                refine hd_ipush (z := 20) pkX19_area rfl ?_
                refine hd_lpush (z := 1) pkX19_area rfl ?_
                refine hd_callV pkX19_area rfl (q := (KX19_small, yX19_small, 19, 2, 0)) rfl rfl rfl (As := [(0, 20), (1, 1)]) (rest := []) (c := 2514) rfl rfl (Nat.le_of_ble_eq_true rfl) (ghc18.cell 0 rfl).1 (ghc18.cell 0 rfl).2.1 (h_X19_small (by decide) (by decide) (by decide) ghc18) (hd_bV (fun hc19 ps => ?_))
                have ghc19 : Str t19 r19 hc19 := ghc18.only ps.1.1 (by decide)
                have hC := hC.trans (ps.1.mono (by decide))
                have VR := VR.keep (by decide) ps.1 (by decide) (by decide) (by decide) (by decide)
                have nU := nU.keep (by decide) ps.1 (by decide) (nm1 (by decide))
                have nD := nv_small ps
                refine m_sub [(0, (2, ((2514 : Nat) : Int))), (1, (0, k))] (List.forall_mem_cons.mpr ⟨rfl, List.forall_mem_cons.mpr ⟨rfl, fun _ h => absurd h List.not_mem_nil⟩⟩) ?_
                refine cut148 trivial hc19 ghc19 ?_ ?_ ?_
                · exact hC
                · exact VR
                · refine ⟨?_, ?_, pb.1.1⟩
                  · have e9 : pcU ln a b c d = 0 := by
                      unfold pcU
                      rw [if_neg (by omega), if_neg (by omega), if_neg (by omega)]
                    rw [e9]
                    exact nU
                  · have e9 : pcD a b c d = 1 := by
                      unfold pcD
                      rw [if_neg (by omega), if_neg (by omega), if_neg (by omega)]
                    rw [e9]
                    exact nD
              · skip
                refine cut125 trivial ?_
                · omega
          refine hd_lload pkX19_area rfl rfl ?_
          refine hd_lpush (z := 0) pkX19_area rfl ?_
          refine hd_lc_ge pkX19_area rfl (fun c20 => ?_) (fun c20 => ?_)
          · skip
            refine cut117 trivial ?_
            · omega
          · skip
            refine hd_lload pkX19_area rfl rfl ?_
            refine hd_lpush (z := 0) pkX19_area rfl ?_
            refine hd_lc_le pkX19_area rfl (fun c21 => ?_) (fun c21 => ?_)
            · skip
              refine cut117 trivial ?_
              · omega
            · skip
              refine hd_aload pkX19_area rfl rfl (Int.natCast_nonneg _) ?_
              refine hd_ipush (z := 19) pkX19_area rfl ?_
              refine hd_lload pkX19_area rfl rfl ?_
              refine hd_lload pkX19_area rfl rfl ?_
              refine hd_lmul pkX19_area rfl (by have q := mul_b (show 0 ≤ ln ∧ ln ≤ 400 by omega) (show 0 ≤ c ∧ c ≤ 1000000 by omega); omega) ?_
              refine hd_lload pkX19_area rfl rfl ?_
              refine hd_lmul pkX19_area rfl (by have q := mul_b (show 0 ≤ ln ∧ ln ≤ 400 by omega) (show 0 ≤ c ∧ c ≤ 1000000 by omega); have w := mul_b q (show 0 ≤ c ∧ c ≤ 1000000 by omega); omega) ?_
              refine hd_lload pkX19_area rfl rfl ?_
              refine hd_lmul pkX19_area rfl (by have q := mul_b (show 0 ≤ ln ∧ ln ≤ 400 by omega) (show 0 ≤ c ∧ c ≤ 1000000 by omega); have w := mul_b q (show 0 ≤ c ∧ c ≤ 1000000 by omega); have u := mul_b w (show 0 ≤ b ∧ b ≤ 1000 by omega); omega) ?_
              refine hd_callV pkX19_area rfl (q := (KX19_small, yX19_small, 19, 2, 0)) rfl rfl rfl (As := [(0, 19), (1, (((ln * c) * c) * b))]) (rest := []) (c := 2514) rfl rfl (Nat.le_of_ble_eq_true rfl) (g10.cell 0 rfl).1 (g10.cell 0 rfl).2.1 (h_X19_small (by decide) (by decide) (by have q := mul_b (show 0 ≤ ln ∧ ln ≤ 400 by omega) (show 0 ≤ c ∧ c ≤ 1000000 by omega); have w := mul_b q (show 0 ≤ c ∧ c ≤ 1000000 by omega); have u := mul_b w (show 0 ≤ b ∧ b ≤ 1000 by omega); omega) g10) (hd_bV (fun hc22 ps => ?_))
              have ghc22 : Str t19 r19 hc22 := g10.only ps.1.1 (by decide)
              have hC := hC.trans (ps.1.mono (by decide))
              have VR := VR.keep (by decide) ps.1 (by decide) (by decide) (by decide) (by decide)
              have nU := nv_small ps
              refine hd_aload pkX19_area rfl rfl (Int.natCast_nonneg _) ?_
              refine hd_ipush (z := 20) pkX19_area rfl ?_
              refine hd_lpush (z := 2) pkX19_area rfl ?_
              refine hd_lload pkX19_area rfl rfl ?_
              refine hd_lmul pkX19_area rfl (by omega) ?_
              refine hd_lload pkX19_area rfl rfl ?_
              refine hd_lmul pkX19_area rfl (by have q := mul_b (show 0 ≤ d ∧ d ≤ 1000 by omega) (show 0 ≤ cr ∧ cr ≤ 2000000000 by omega); have w : 2 * d * cr = 2 * (d * cr) := Int.mul_assoc ..; omega) ?_
              refine hd_callV pkX19_area rfl (q := (KX19_small, yX19_small, 19, 2, 0)) rfl rfl rfl (As := [(0, 20), (1, ((2 * d) * cr))]) (rest := []) (c := 2514) rfl rfl (Nat.le_of_ble_eq_true rfl) (ghc22.cell 0 rfl).1 (ghc22.cell 0 rfl).2.1 (h_X19_small (by decide) (by decide) (by have q := mul_b (show 0 ≤ d ∧ d ≤ 1000 by omega) (show 0 ≤ cr ∧ cr ≤ 2000000000 by omega); have w : 2 * d * cr = 2 * (d * cr) := Int.mul_assoc ..; omega) ghc22) (hd_bV (fun hc23 ps => ?_))
              have ghc23 : Str t19 r19 hc23 := ghc22.only ps.1.1 (by decide)
              have hC := hC.trans (ps.1.mono (by decide))
              have VR := VR.keep (by decide) ps.1 (by decide) (by decide) (by decide) (by decide)
              have nU := nU.keep (by decide) ps.1 (by decide) (nm1 (by decide))
              have nD := nv_small ps
              refine hd_goto pkX19_area rfl ?_
              refine m_sub [(0, (2, ((2514 : Nat) : Int))), (1, (0, k))] (List.forall_mem_cons.mpr ⟨rfl, List.forall_mem_cons.mpr ⟨rfl, fun _ h => absurd h List.not_mem_nil⟩⟩) ?_
              refine cut148 trivial hc23 ghc23 ?_ ?_ ?_
              · exact hC
              · exact VR
              · refine ⟨?_, ?_, pb.1.1⟩
                · have e9 : pcU ln a b c d = ln * c * c * b := by
                    unfold pcU
                    rw [if_neg (by omega), if_pos ⟨by omega, by omega⟩]
                  rw [e9]
                  exact nU
                · have e9 : pcD a b c d = 2 * d * crQ a b c d := by
                    unfold pcD
                    rw [if_neg (by omega), if_pos ⟨by omega, by omega⟩]
                  rw [e9, ← ecr2]
                  exact nD
        refine hd_lload pkX19_area rfl rfl ?_
        refine hd_lpush (z := 0) pkX19_area rfl ?_
        refine hd_lc_le pkX19_area rfl (fun c24 => ?_) (fun c24 => ?_)
        · skip
          refine m_sub [(0, (2, ((2514 : Nat) : Int))), (1, (0, k)), (2, (1, ln)), (4, (1, a)), (6, (1, b)), (8, (1, c)), (10, (1, d)), (12, (1, cr))] (List.forall_mem_cons.mpr ⟨rfl, List.forall_mem_cons.mpr ⟨rfl, List.forall_mem_cons.mpr ⟨rfl, List.forall_mem_cons.mpr ⟨rfl, List.forall_mem_cons.mpr ⟨rfl, List.forall_mem_cons.mpr ⟨rfl, List.forall_mem_cons.mpr ⟨rfl, List.forall_mem_cons.mpr ⟨rfl, fun _ h => absurd h List.not_mem_nil⟩⟩⟩⟩⟩⟩⟩⟩) ?_
          refine cut90 trivial ?_
          · omega
        · skip
          refine hd_lload pkX19_area rfl rfl ?_
          refine hd_lpush (z := 0) pkX19_area rfl ?_
          refine hd_lc_ge pkX19_area rfl (fun c25 => ?_) (fun c25 => ?_)
          · skip
            refine m_sub [(0, (2, ((2514 : Nat) : Int))), (1, (0, k)), (2, (1, ln)), (4, (1, a)), (6, (1, b)), (8, (1, c)), (10, (1, d)), (12, (1, cr))] (List.forall_mem_cons.mpr ⟨rfl, List.forall_mem_cons.mpr ⟨rfl, List.forall_mem_cons.mpr ⟨rfl, List.forall_mem_cons.mpr ⟨rfl, List.forall_mem_cons.mpr ⟨rfl, List.forall_mem_cons.mpr ⟨rfl, List.forall_mem_cons.mpr ⟨rfl, List.forall_mem_cons.mpr ⟨rfl, fun _ h => absurd h List.not_mem_nil⟩⟩⟩⟩⟩⟩⟩⟩) ?_
            refine cut90 trivial ?_
            · omega
          · skip
            refine hd_aload pkX19_area rfl rfl (Int.natCast_nonneg _) ?_
            refine hd_ipush (z := 19) pkX19_area rfl ?_
            refine hd_lload pkX19_area rfl rfl ?_
            refine hd_lload pkX19_area rfl rfl ?_
            refine hd_lmul pkX19_area rfl (by have q := mul_b (show 0 ≤ ln ∧ ln ≤ 400 by omega) (show 0 ≤ a ∧ a ≤ 1000000 by omega); omega) ?_
            refine hd_lload pkX19_area rfl rfl ?_
            refine hd_lmul pkX19_area rfl (by have q := mul_b (show 0 ≤ ln ∧ ln ≤ 400 by omega) (show 0 ≤ a ∧ a ≤ 1000000 by omega); have w := mul_b q (show 0 ≤ a ∧ a ≤ 1000000 by omega); omega) ?_
            refine hd_lload pkX19_area rfl rfl ?_
            refine hd_lmul pkX19_area rfl (by have q := mul_b (show 0 ≤ ln ∧ ln ≤ 400 by omega) (show 0 ≤ a ∧ a ≤ 1000000 by omega); have w := mul_b q (show 0 ≤ a ∧ a ≤ 1000000 by omega); have u := mul_b w (show 0 ≤ d ∧ d ≤ 1000 by omega); omega) ?_
            refine hd_callV pkX19_area rfl (q := (KX19_small, yX19_small, 19, 2, 0)) rfl rfl rfl (As := [(0, 19), (1, (((ln * a) * a) * d))]) (rest := []) (c := 2514) rfl rfl (Nat.le_of_ble_eq_true rfl) (g10.cell 0 rfl).1 (g10.cell 0 rfl).2.1 (h_X19_small (by decide) (by decide) (by have q := mul_b (show 0 ≤ ln ∧ ln ≤ 400 by omega) (show 0 ≤ a ∧ a ≤ 1000000 by omega); have w := mul_b q (show 0 ≤ a ∧ a ≤ 1000000 by omega); have u := mul_b w (show 0 ≤ d ∧ d ≤ 1000 by omega); omega) g10) (hd_bV (fun hc26 ps => ?_))
            have ghc26 : Str t19 r19 hc26 := g10.only ps.1.1 (by decide)
            have hC := hC.trans (ps.1.mono (by decide))
            have VR := VR.keep (by decide) ps.1 (by decide) (by decide) (by decide) (by decide)
            have nU := nv_small ps
            refine hd_aload pkX19_area rfl rfl (Int.natCast_nonneg _) ?_
            refine hd_ipush (z := 20) pkX19_area rfl ?_
            refine hd_lpush (z := 2) pkX19_area rfl ?_
            refine hd_lload pkX19_area rfl rfl ?_
            refine hd_lmul pkX19_area rfl (by omega) ?_
            refine hd_lload pkX19_area rfl rfl ?_
            refine hd_lmul pkX19_area rfl (by have q := mul_b (show 0 ≤ b ∧ b ≤ 1000 by omega) (show 0 ≤ cr ∧ cr ≤ 2000000000 by omega); have w : 2 * b * cr = 2 * (b * cr) := Int.mul_assoc ..; omega) ?_
            refine hd_callV pkX19_area rfl (q := (KX19_small, yX19_small, 19, 2, 0)) rfl rfl rfl (As := [(0, 20), (1, ((2 * b) * cr))]) (rest := []) (c := 2514) rfl rfl (Nat.le_of_ble_eq_true rfl) (ghc26.cell 0 rfl).1 (ghc26.cell 0 rfl).2.1 (h_X19_small (by decide) (by decide) (by have q := mul_b (show 0 ≤ b ∧ b ≤ 1000 by omega) (show 0 ≤ cr ∧ cr ≤ 2000000000 by omega); have w : 2 * b * cr = 2 * (b * cr) := Int.mul_assoc ..; omega) ghc26) (hd_bV (fun hc27 ps => ?_))
            have ghc27 : Str t19 r19 hc27 := ghc26.only ps.1.1 (by decide)
            have hC := hC.trans (ps.1.mono (by decide))
            have VR := VR.keep (by decide) ps.1 (by decide) (by decide) (by decide) (by decide)
            have nU := nU.keep (by decide) ps.1 (by decide) (nm1 (by decide))
            have nD := nv_small ps
            refine hd_goto pkX19_area rfl ?_
            refine m_sub [(0, (2, ((2514 : Nat) : Int))), (1, (0, k))] (List.forall_mem_cons.mpr ⟨rfl, List.forall_mem_cons.mpr ⟨rfl, fun _ h => absurd h List.not_mem_nil⟩⟩) ?_
            refine cut148 trivial hc27 ghc27 ?_ ?_ ?_
            · exact hC
            · exact VR
            · refine ⟨?_, ?_, pb.1.1⟩
              · have e9 : pcU ln a b c d = ln * a * a * d := by
                  unfold pcU
                  rw [if_pos ⟨by omega, by omega⟩]
                rw [e9]
                exact nU
              · have e9 : pcD a b c d = 2 * b * crQ a b c d := by
                  unfold pcD
                  rw [if_pos ⟨by omega, by omega⟩]
                rw [e9, ← ecr2]
                exact nD
  refine m_sub [(0, (2, ((2514 : Nat) : Int))), (1, (0, 0))] (List.forall_mem_cons.mpr ⟨rfl, List.forall_mem_cons.mpr ⟨rfl, fun _ h => absurd h List.not_mem_nil⟩⟩) ?_
  refine lp10 ((cn + 1 - (0)) + 1).toNat (0) hc2 ghc2 ?_ ?_ ?_ ?_ ?_
  · exact hC
  · omega
  · exact VR
  · exact Ad.zero
  · omega
