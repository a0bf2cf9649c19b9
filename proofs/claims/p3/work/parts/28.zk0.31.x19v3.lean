set_option maxRecDepth 20000 in
set_option maxHeartbeats 8000000 in
theorem h_X19_laneSum {h : MH} {n cn W L : Int} (sn : S19 h cn) (hn : 0 ≤ n ∧ n ≤ ga h 2514 21) (wl : WL h W L) (g : Str t19 r19 h) : MCal KX19_laneSum yX19_laneSum 0 0 [(2, ((2514 : Nat) : Int)), (0, n)] h (mRV fun h' => Ch 140 2515 2516 [17, 18, 21, 22, 23, 24, 25] h h' ∧ WL h' W L ∧ Hr 140 2515 2516 h' 17 18 (if ga h 2514 13 = 0 then 0 else Rat.divInt (W * (lnP (ga h 2525) (ga h 2526) n.toNat).1) (L * (lnP (ga h 2525) (ga h 2526) n.toNat).2))) := by
  refine MCal.ofMW (Or.inl rfl) ⟨cp_X19, rfl⟩ (Nat.le_of_ble_eq_true rfl) ?_
  generalize eQ : (mRV fun h' => Ch 140 2515 2516 [17, 18, 21, 22, 23, 24, 25] h h' ∧ WL h' W L ∧ Hr 140 2515 2516 h' 17 18 (if ga h 2514 13 = 0 then 0 else Rat.divInt (W * (lnP (ga h 2525) (ga h 2526) n.toNat).1) (L * (lnP (ga h 2525) (ga h 2526) n.toNat).2)) : MO → MH → Prop) = Q
  change MW KX19_laneSum Q 0 0 (pcA pgX19_laneSum 0) [(0, (2, ((2514 : Nat) : Int))), (1, (0, n))] [] h
  refine hd_locI (i := 1) rfl (fun rn => ?_)
  have l4 := sn.2.2.1.1
  have hC : Ch 140 2515 2516 [17, 18, 21, 22, 23, 24, 25] h h := Ch.refl _ _ _ _ _
  refine hd_lpush (z := 0) pkX19_laneSum rfl ?_
  refine hd_lstore pkX19_laneSum rfl rfl ?_
  change MW _ _ _ _ _ [(2, (1, 0)), (0, (2, ((2514 : Nat) : Int))), (1, (0, n))] _ _
  refine hd_lpush (z := 1) pkX19_laneSum rfl ?_
  refine hd_lstore pkX19_laneSum rfl rfl ?_
  change MW _ _ _ _ _ [(4, (1, 1)), (2, (1, 0)), (0, (2, ((2514 : Nat) : Int))), (1, (0, n))] _ _
  refine hd_ipush (z := 0) pkX19_laneSum rfl ?_
  refine hd_istore pkX19_laneSum rfl rfl ?_
  change MW _ _ _ _ _ [(6, (0, 0)), (4, (1, 1)), (2, (1, 0)), (0, (2, ((2514 : Nat) : Int))), (1, (0, n))] _ _
  have lp6 : ∀ (N6 : Nat) (up dn k : Int), (0 ≤ k ∧ k ≤ n) → (up = (lnP (ga h 2525) (ga h 2526) k.toNat).1) → (dn = (lnP (ga h 2525) (ga h 2526) k.toNat).2) → n - k < (N6 : Int) → MW KX19_laneSum Q 0 0 (pcA pgX19_laneSum 6) [(0, (2, ((2514 : Nat) : Int))), (1, (0, n)), (2, (1, up)), (4, (1, dn)), (6, (0, k))] [] h := by
    intro N6
    induction N6 with
    | zero => intro up dn k k0 xu xd hm6; exfalso; omega
    | succ N6 ih6 =>
      intro up dn k k0 xu xd hm6
      have lb := lnP_4 (A := ga h 2525) (B := ga h 2526) (n := k.toNat) (by omega) (fun i i0 i1 => sn.2.2.1.2 i i0 (by omega))
      rw [← xu, ← xd] at lb
      refine hd_iload pkX19_laneSum rfl rfl ?_
      refine hd_iload pkX19_laneSum rfl rfl ?_
      refine hd_ic_ge pkX19_laneSum rfl (fun c1 => ?_) (fun c1 => ?_)
      · skip
        refine hd_aload pkX19_laneSum rfl rfl (Int.natCast_nonneg _) ?_
        refine hd_getZ pkX19_laneSum rfl (g.cell 0 rfl).1 (g.cell 0 rfl).2.1 (fun v2 ev2 rv2 => ?_)
        obtain ⟨hv, qv2⟩ : ∃ x : Int, x = v2 := ⟨_, rfl⟩
        have e13 : ga h 2514 13 = hv := by rw [qv2, ev2]; rfl
        subst qv2
        refine hd_if_ne pkX19_laneSum rfl (fun c3 => ?_) (fun c3 => ?_)
        · skip
          refine hd_aload pkX19_laneSum rfl rfl (Int.natCast_nonneg _) ?_
          refine hd_ipush (z := 16) pkX19_laneSum rfl ?_
          refine hd_ipush (z := 17) pkX19_laneSum rfl ?_
          have kn9 : k = n := by omega
          have wp := wl.1 (by omega)
          have WB := wl.2.1
          have L0 := wl.2.2.1
          have L1 := wl.2.2.2
          refine hd_callV pkX19_laneSum rfl (q := (KX19_copy, yX19_copy, 19, 2, 0)) rfl rfl rfl (As := [(0, 16), (0, 17)]) (rest := []) (c := 2514) rfl rfl (Nat.le_of_ble_eq_true rfl) (g.cell 0 rfl).1 (g.cell 0 rfl).2.1 (h_X19_copy (by decide) (by decide) (by decide) (by decide) wp.1.1 g) (hd_bV (fun hc4 pc => ?_))
          have ghc4 : Str t19 r19 hc4 := g.only pc.1.1 (by decide)
          have hC := hC.trans (pc.1.mono (by decide))
          have wl := wl.ch pc.1 (by decide)
          have VL := wp.2.keep (by decide) pc.1 (by decide) (by decide)
          have V7 := nv_copy wp.1 pc
          refine hd_aload pkX19_laneSum rfl rfl (Int.natCast_nonneg _) ?_
          refine hd_ipush (z := 14) pkX19_laneSum rfl ?_
          refine hd_ipush (z := 18) pkX19_laneSum rfl ?_
          refine hd_callV pkX19_laneSum rfl (q := (KX19_copy, yX19_copy, 19, 2, 0)) rfl rfl rfl (As := [(0, 14), (0, 18)]) (rest := []) (c := 2514) rfl rfl (Nat.le_of_ble_eq_true rfl) (ghc4.cell 0 rfl).1 (ghc4.cell 0 rfl).2.1 (h_X19_copy (by decide) (by decide) (by decide) (by decide) VL.1 ghc4) (hd_bV (fun hc5 pc => ?_))
          have ghc5 : Str t19 r19 hc5 := ghc4.only pc.1.1 (by decide)
          have hC := hC.trans (pc.1.mono (by decide))
          have wl := wl.ch pc.1 (by decide)
          have V7 := V7.keep (by decide) pc.1 (by decide) (by decide)
          have V8 := nv_copy VL pc
          refine hd_aload pkX19_laneSum rfl rfl (Int.natCast_nonneg _) ?_
          refine hd_ipush (z := 17) pkX19_laneSum rfl ?_
          refine hd_lload pkX19_laneSum rfl rfl ?_
          refine hd_callV pkX19_laneSum rfl (q := (KX19_times, yX19_times, 19, 2, 0)) rfl rfl rfl (As := [(0, 17), (1, up)]) (rest := []) (c := 2514) rfl rfl (Nat.le_of_ble_eq_true rfl) (ghc5.cell 0 rfl).1 (ghc5.cell 0 rfl).2.1 (h_X19_times (m := 28) (n := 2) (by decide) (by decide) (by decide) (by decide) V7 (by omega) WB (pw2 ⟨by omega, by omega⟩) (by decide) ghc5) (hd_bV (fun hc6 pt => ?_))
          have ghc6 : Str t19 r19 hc6 := ghc5.only pt.1.1 (by decide)
          have hC := hC.trans (pt.1.mono (by decide))
          have wl := wl.ch pt.1 (by decide)
          have V8 := V8.keep (by decide) pt.1 (by decide) (by decide)
          have V7 := pt.2
          have b7 := PW_mk (k := 30) rfl WB (pw2 (y := up) ⟨by omega, by omega⟩)
          refine hd_aload pkX19_laneSum rfl rfl (Int.natCast_nonneg _) ?_
          refine hd_ipush (z := 18) pkX19_laneSum rfl ?_
          refine hd_lload pkX19_laneSum rfl rfl ?_
          refine hd_callV pkX19_laneSum rfl (q := (KX19_times, yX19_times, 19, 2, 0)) rfl rfl rfl (As := [(0, 18), (1, dn)]) (rest := []) (c := 2514) rfl rfl (Nat.le_of_ble_eq_true rfl) (ghc6.cell 0 rfl).1 (ghc6.cell 0 rfl).2.1 (h_X19_times (m := 11) (n := 2) (by decide) (by decide) (by decide) (by decide) V8 (by omega) (by omega) (pw2 ⟨by omega, by omega⟩) (by decide) ghc6) (hd_bV (fun hc7 pt => ?_))
          have ghc7 : Str t19 r19 hc7 := ghc6.only pt.1.1 (by decide)
          have hC := hC.trans (pt.1.mono (by decide))
          have wl := wl.ch pt.1 (by decide)
          have V7 := V7.keep (by decide) pt.1 (by decide) (by decide)
          have V8 := pt.2
          have b8 := PW_mk (x := L) (m := 11) (k := 13) rfl (by omega) (pw2 (y := dn) ⟨by omega, by omega⟩)
          have q0 : 0 < L * dn := Int.mul_pos L0 (by omega)
          refine hd_aload pkX19_laneSum rfl rfl (Int.natCast_nonneg _) ?_
          refine hd_ipush (z := 17) pkX19_laneSum rfl ?_
          refine hd_ipush (z := 18) pkX19_laneSum rfl ?_
          refine hd_callV pkX19_laneSum rfl (q := (KX19_reduce, yX19_reduce, 19, 2, 0)) rfl rfl rfl (As := [(0, 17), (0, 18)]) (rest := []) (c := 2514) rfl rfl (Nat.le_of_ble_eq_true rfl) (ghc7.cell 0 rfl).1 (ghc7.cell 0 rfl).2.1 (h_X19_reduce (m := 30) (by decide) (by decide) (by decide) (by decide) (by decide) (by decide) (by decide) V7.1 V7.2.1 V8.1 (nv_vl V8 q0) (nv_su V7) q0 b7 (PW_up (PW_q q0 b8) (by decide)) (by decide) (by decide) ghc7) (hd_bV (fun hc8 pr => ?_))
          have ghc8 : Str t19 r19 hc8 := ghc7.only pr.1.1 (by decide)
          have hC := hC.trans (pr.1.mono (by decide))
          have wl := wl.ch pr.1 (by decide)
          have VR := pr_reduce ⟨V7, V8, q0⟩ pr.2
          refine hd_vret pkX19_laneSum rfl ?_
          subst eQ
          refine ⟨rfl, hC, wl, ?_⟩
          rw [if_neg (by omega), ← kn9, ← xu, ← xd]
          exact VR
        · skip
          refine hd_aload pkX19_laneSum rfl rfl (Int.natCast_nonneg _) ?_
          refine hd_ipush (z := 17) pkX19_laneSum rfl ?_
          refine hd_lpush (z := 0) pkX19_laneSum rfl ?_
          refine hd_callV pkX19_laneSum rfl (q := (KX19_small, yX19_small, 19, 2, 0)) rfl rfl rfl (As := [(0, 17), (1, 0)]) (rest := []) (c := 2514) rfl rfl (Nat.le_of_ble_eq_true rfl) (g.cell 0 rfl).1 (g.cell 0 rfl).2.1 (h_X19_small (by decide) (by decide) (by decide) g) (hd_bV (fun hc9 ps => ?_))
          have ghc9 : Str t19 r19 hc9 := g.only ps.1.1 (by decide)
          have hC := hC.trans (ps.1.mono (by decide))
          have wl := wl.ch ps.1 (by decide)
          have nA := nv_small ps
          refine hd_aload pkX19_laneSum rfl rfl (Int.natCast_nonneg _) ?_
          refine hd_ipush (z := 18) pkX19_laneSum rfl ?_
          refine hd_lpush (z := 1) pkX19_laneSum rfl ?_
          refine hd_callV pkX19_laneSum rfl (q := (KX19_small, yX19_small, 19, 2, 0)) rfl rfl rfl (As := [(0, 18), (1, 1)]) (rest := []) (c := 2514) rfl rfl (Nat.le_of_ble_eq_true rfl) (ghc9.cell 0 rfl).1 (ghc9.cell 0 rfl).2.1 (h_X19_small (by decide) (by decide) (by decide) ghc9) (hd_bV (fun hc10 ps => ?_))
          have ghc10 : Str t19 r19 hc10 := ghc9.only ps.1.1 (by decide)
          have hC := hC.trans (ps.1.mono (by decide))
          have wl := wl.ch ps.1 (by decide)
          have nA := nA.keep (by decide) ps.1 (by decide) (nm1 (by decide))
          have VR : Hr 140 2515 2516 hc10 17 18 0 := ⟨nA, nv_small ps, by decide⟩
          refine hd_vret pkX19_laneSum rfl ?_
          subst eQ
          refine ⟨rfl, hC, wl, ?_⟩
          rw [if_pos (by omega)]
          exact VR
      · skip
        refine hd_lload pkX19_laneSum rfl rfl ?_
        refine hd_aload pkX19_laneSum rfl rfl (Int.natCast_nonneg _) ?_
        refine hd_getR (n := 2526) pkX19_laneSum rfl (g.cell 0 rfl).1 (g.cell 0 rfl).2.1 (g.ref 11 rfl) ?_
        refine hd_iload pkX19_laneSum rfl rfl ?_
        refine hd_lald (n := 4) pkX19_laneSum rfl (g.cell 12 rfl) (by omega) (by omega) (fun v11 ev11 rv11 => ?_)
        obtain ⟨bk, qv11⟩ : ∃ x : Int, x = v11 := ⟨_, rfl⟩
        have ebk : bk = ga h 2526 k := qv11.trans ev11
        have bbk := (sn.2.2.1.2 k (by omega) (by omega)).2
        rw [← ebk] at bbk
        subst qv11
        refine hd_lmul pkX19_laneSum rfl (by have := mul_b (a := up) (b := bk) (A := 4000000000000) (B := 1000) (by omega) (by omega); omega) ?_
        refine hd_aload pkX19_laneSum rfl rfl (Int.natCast_nonneg _) ?_
        refine hd_getR (n := 2525) pkX19_laneSum rfl (g.cell 0 rfl).1 (g.cell 0 rfl).2.1 (g.ref 10 rfl) ?_
        refine hd_iload pkX19_laneSum rfl rfl ?_
        refine hd_lald (n := 4) pkX19_laneSum rfl (g.cell 11 rfl) (by omega) (by omega) (fun v12 ev12 rv12 => ?_)
        obtain ⟨ak, qv12⟩ : ∃ x : Int, x = v12 := ⟨_, rfl⟩
        have eak : ak = ga h 2525 k := qv12.trans ev12
        have bak := (sn.2.2.1.2 k (by omega) (by omega)).1
        rw [← eak] at bak
        subst qv12
        refine hd_lload pkX19_laneSum rfl rfl ?_
        refine hd_lmul pkX19_laneSum rfl (by have := mul_b (a := ak) (b := dn) (A := 1000) (B := 1000000000000) (by omega) (by omega); omega) ?_
        refine hd_ladd pkX19_laneSum rfl (by have := mul_b (a := up) (b := bk) (A := 4000000000000) (B := 1000) (by omega) (by omega); have := mul_b (a := ak) (b := dn) (A := 1000) (B := 1000000000000) (by omega) (by omega); omega) ?_
        refine hd_lstore pkX19_laneSum rfl rfl ?_
        change MW _ _ _ _ _ [(2, (1, ((up * bk) + (ak * dn)))), (0, (2, ((2514 : Nat) : Int))), (1, (0, n)), (4, (1, dn)), (6, (0, k))] _ _
        refine hd_lload pkX19_laneSum rfl rfl ?_
        refine hd_aload pkX19_laneSum rfl rfl (Int.natCast_nonneg _) ?_
        refine hd_getR (n := 2526) pkX19_laneSum rfl (g.cell 0 rfl).1 (g.cell 0 rfl).2.1 (g.ref 11 rfl) ?_
        refine hd_iload pkX19_laneSum rfl rfl ?_
        refine hd_lald (n := 4) pkX19_laneSum rfl (g.cell 12 rfl) (by omega) (by omega) (fun v13 ev13 rv13 => ?_)
        have qv13 : bk = v13 := ebk.trans ev13.symm
        subst qv13
        refine hd_lmul pkX19_laneSum rfl (by have := mul_b (a := dn) (b := bk) (A := 1000000000000) (B := 1000) (by omega) (by omega); omega) ?_
        refine hd_lstore pkX19_laneSum rfl rfl ?_
        change MW _ _ _ _ _ [(4, (1, (dn * bk))), (2, (1, ((up * bk) + (ak * dn)))), (0, (2, ((2514 : Nat) : Int))), (1, (0, n)), (6, (0, k))] _ _
        refine hd_iinc (z := 1) pkX19_laneSum rfl rfl (by omega) rfl ?_
        change MW _ _ _ _ _ [(6, (0, (k + 1))), (4, (1, (dn * bk))), (2, (1, ((up * bk) + (ak * dn)))), (0, (2, ((2514 : Nat) : Int))), (1, (0, n))] _ _
        refine hd_goto pkX19_laneSum rfl ?_
        refine m_sub [(0, (2, ((2514 : Nat) : Int))), (1, (0, n)), (2, (1, ((up * bk) + (ak * dn)))), (4, (1, (dn * bk))), (6, (0, (k + 1)))] (List.forall_mem_cons.mpr ⟨rfl, List.forall_mem_cons.mpr ⟨rfl, List.forall_mem_cons.mpr ⟨rfl, List.forall_mem_cons.mpr ⟨rfl, List.forall_mem_cons.mpr ⟨rfl, fun _ h => absurd h List.not_mem_nil⟩⟩⟩⟩⟩) ?_
        refine ih6  (((up * bk) + (ak * dn))) ((dn * bk)) ((k + 1)) ?_ ?_ ?_ ?_
        · omega
        · have e9 : (lnP (ga h 2525) (ga h 2526) (k + 1).toNat) = ((lnP (ga h 2525) (ga h 2526) k.toNat).1 * ga h 2526 k + ga h 2525 k * (lnP (ga h 2525) (ga h 2526) k.toNat).2, (lnP (ga h 2525) (ga h 2526) k.toNat).2 * ga h 2526 k) := by
            rw [show (k + 1).toNat = k.toNat + 1 by omega]
            show (_, _) = _
            rw [show ((k.toNat : Nat) : Int) = k by omega]
          rw [e9, xu, xd, ebk, eak]
        · have e9 : (lnP (ga h 2525) (ga h 2526) (k + 1).toNat) = ((lnP (ga h 2525) (ga h 2526) k.toNat).1 * ga h 2526 k + ga h 2525 k * (lnP (ga h 2525) (ga h 2526) k.toNat).2, (lnP (ga h 2525) (ga h 2526) k.toNat).2 * ga h 2526 k) := by
            rw [show (k + 1).toNat = k.toNat + 1 by omega]
            show (_, _) = _
            rw [show ((k.toNat : Nat) : Int) = k by omega]
          rw [e9, xd, ebk]
        · omega
  refine m_sub [(0, (2, ((2514 : Nat) : Int))), (1, (0, n)), (2, (1, 0)), (4, (1, 1)), (6, (0, 0))] (List.forall_mem_cons.mpr ⟨rfl, List.forall_mem_cons.mpr ⟨rfl, List.forall_mem_cons.mpr ⟨rfl, List.forall_mem_cons.mpr ⟨rfl, List.forall_mem_cons.mpr ⟨rfl, fun _ h => absurd h List.not_mem_nil⟩⟩⟩⟩⟩) ?_
  refine lp6 ((n - (0)) + 1).toNat (0) (1) (0) ?_ ?_ ?_ ?_
  · omega
  · rfl
  · rfl
  · omega
set_option maxRecDepth 20000 in
set_option maxHeartbeats 8000000 in
theorem h_X19_work {h : MH} {k cn W L : Int} (hk : 0 ≤ k ∧ k < 8) (sn : S19 h cn) (wl : WL h W L) (g : Str t19 r19 h) : MCal KX19_work yX19_work 0 0 [(2, ((2514 : Nat) : Int)), (0, k)] h (mRV fun h' => Ch 140 2515 2516 [17, 18, 19, 20, 21, 22, 23, 24, 25, 26, 27] h h' ∧ WL h' W L ∧ ∃ r : Rat, Hr 140 2515 2516 h' 26 27 r ∧ SzQ 62 r) := by
  refine MCal.ofMW (Or.inl rfl) ⟨cp_X19, rfl⟩ (Nat.le_of_ble_eq_true rfl) ?_
  generalize eQ : (mRV fun h' => Ch 140 2515 2516 [17, 18, 19, 20, 21, 22, 23, 24, 25, 26, 27] h h' ∧ WL h' W L ∧ ∃ r : Rat, Hr 140 2515 2516 h' 26 27 r ∧ SzQ 62 r : MO → MH → Prop) = Q
  change MW KX19_work Q 0 0 (pcA pgX19_work 0) [(0, (2, ((2514 : Nat) : Int))), (1, (0, k))] [] h
  refine hd_locI (i := 1) rfl (fun rk => ?_)
  have l21 := sn.2.2.1.1
  obtain ⟨asz, dbd, ubd⟩ : SzQ 29 (arQ (ga h 2517) (ga h 2518) (ga h 2519) (cn - 1).toNat) ∧ (1 ≤ (lnP (ga h 2525) (ga h 2526) (ga h 2514 21).toNat).2 ∧ (lnP (ga h 2525) (ga h 2526) (ga h 2514 21).toNat).2 ≤ 1000000000000) ∧ (0 ≤ (lnP (ga h 2525) (ga h 2526) (ga h 2514 21).toNat).1 ∧ (lnP (ga h 2525) (ga h 2526) (ga h 2514 21).toNat).1 ≤ 4000000000000) := (by have q := lnP_4 (A := ga h 2525) (B := ga h 2526) (n := (ga h 2514 21).toNat) (by omega) (fun i i0 i1 => sn.2.2.1.2 i i0 (by omega)); exact ⟨ar_sz sn, q.1, q.2⟩)
  have hC : Ch 140 2515 2516 [17, 18, 19, 20, 21, 22, 23, 24, 25, 26, 27] h h := Ch.refl _ _ _ _ _
  refine hd_aload pkX19_work rfl rfl (Int.natCast_nonneg _) ?_
  refine hd_ipush (z := 26) pkX19_work rfl ?_
  refine hd_lpush (z := 0) pkX19_work rfl ?_
  refine hd_callV pkX19_work rfl (q := (KX19_small, yX19_small, 19, 2, 0)) rfl rfl rfl (As := [(0, 26), (1, 0)]) (rest := []) (c := 2514) rfl rfl (Nat.le_of_ble_eq_true rfl) (g.cell 0 rfl).1 (g.cell 0 rfl).2.1 (h_X19_small (by decide) (by decide) (by decide) g) (hd_bV (fun hc1 ps => ?_))
  have ghc1 : Str t19 r19 hc1 := g.only ps.1.1 (by decide)
  have hC := hC.trans (ps.1.mono (by decide))
  have wl := wl.ch ps.1 (by decide)
  have sn := sn.only ps.1.1
  have nA := nv_small ps
  refine hd_aload pkX19_work rfl rfl (Int.natCast_nonneg _) ?_
  refine hd_ipush (z := 27) pkX19_work rfl ?_
  refine hd_lpush (z := 1) pkX19_work rfl ?_
  refine hd_callV pkX19_work rfl (q := (KX19_small, yX19_small, 19, 2, 0)) rfl rfl rfl (As := [(0, 27), (1, 1)]) (rest := []) (c := 2514) rfl rfl (Nat.le_of_ble_eq_true rfl) (ghc1.cell 0 rfl).1 (ghc1.cell 0 rfl).2.1 (h_X19_small (by decide) (by decide) (by decide) ghc1) (hd_bV (fun hc2 ps => ?_))
  have ghc2 : Str t19 r19 hc2 := ghc1.only ps.1.1 (by decide)
  have hC := hC.trans (ps.1.mono (by decide))
  have wl := wl.ch ps.1 (by decide)
  have sn := sn.only ps.1.1
  have nA := nA.keep (by decide) ps.1 (by decide) (nm1 (by decide))
  have VC : Hr 140 2515 2516 hc2 26 27 0 := ⟨nA, nv_small ps, by decide⟩
  refine hd_ipush (z := 0) pkX19_work rfl ?_
  refine hd_istore pkX19_work rfl rfl ?_
  change MW _ _ _ _ _ [(2, (0, 0)), (0, (2, ((2514 : Nat) : Int))), (1, (0, k))] _ _
  have lp10 : ∀ (N10 : Nat) (i : Int) (hi : MH), Str t19 r19 hi → (Ch 140 2515 2516 [17, 18, 19, 20, 21, 22, 23, 24, 25, 26, 27] h hi) → (S19 hi cn) → (WL hi W L) → (0 ≤ i ∧ i ≤ 6) → (∃ r : Rat, Hr 140 2515 2516 hi 26 27 r ∧ Cs (cE (arQ (ga h 2517) (ga h 2518) (ga h 2519) (cn - 1).toNat) L (lnP (ga h 2525) (ga h 2526) (ga h 2514 21).toNat).2) i.toNat r) → (6 : Int) - i < (N10 : Int) → MW KX19_work Q 0 0 (pcA pgX19_work 10) [(0, (2, ((2514 : Nat) : Int))), (1, (0, k)), (2, (0, i))] [] hi := by
    intro N10
    induction N10 with
    | zero => intro i hi g10 hC sn wl i0 vc hm10; exfalso; omega
    | succ N10 ih10 =>
      intro i hi g10 hC sn wl i0 vc hm10
      obtain ⟨r, VC, cs⟩ := vc
      refine hd_iload pkX19_work rfl rfl ?_
      refine hd_aload pkX19_work rfl rfl (Int.natCast_nonneg _) ?_
      refine hd_getR (n := 2528) pkX19_work rfl (g10.cell 0 rfl).1 (g10.cell 0 rfl).2.1 (g10.ref 13 rfl) ?_
      refine hd_iload pkX19_work rfl rfl ?_
      refine hd_iald (n := 8) pkX19_work rfl (g10.cell 14 rfl) (by omega) (by omega) (fun v3 ev3 rv3 => ?_)
      have tkb : 0 ≤ v3 ∧ v3 ≤ 6 := by rw [ev3]; exact (sn.2.2.2.1.2.2.1 k hk.1 hk.2).1
      refine hd_ic_ge pkX19_work rfl (fun c4 => ?_) (fun c4 => ?_)
      · skip
        refine hd_vret pkX19_work rfl ?_
        subst eQ
        exact ⟨rfl, hC, wl, r, VC, cs.sz asz wl.2.2.1 wl.2.2.2 dbd (by omega)⟩
      · skip
        refine hd_ipush (z := 18) pkX19_work rfl ?_
        refine hd_iload pkX19_work rfl rfl ?_
        refine hd_imul pkX19_work rfl (by omega) ?_
        refine hd_ipush (z := 3) pkX19_work rfl ?_
        refine hd_iload pkX19_work rfl rfl ?_
        refine hd_imul pkX19_work rfl (by omega) ?_
        refine hd_iadd pkX19_work rfl (by omega) ?_
        refine hd_istore pkX19_work rfl rfl ?_
        change MW _ _ _ _ _ [(3, (0, ((18 * k) + (3 * i)))), (0, (2, ((2514 : Nat) : Int))), (1, (0, k)), (2, (0, i))] _ _
        have cut68 : ∀ (_ : True) (hj68 : MH), Str t19 r19 hj68 → (Ch 140 2515 2516 [17, 18, 19, 20, 21, 22, 23, 24, 25, 26, 27] h hj68) → (S19 hj68 cn) → (WL hj68 W L) → (Hr 140 2515 2516 hj68 26 27 r) → (∃ p q : Int, Pr 140 2515 2516 hj68 17 18 p q ∧ Tq (cE (arQ (ga h 2517) (ga h 2518) (ga h 2519) (cn - 1).toNat) L (lnP (ga h 2525) (ga h 2526) (ga h 2514 21).toNat).2) p q) → MW KX19_work Q 0 0 (pcA pgX19_work 68) [(0, (2, ((2514 : Nat) : Int))), (1, (0, k)), (2, (0, i)), (3, (0, ((18 * k) + (3 * i))))] [] hj68 := by
          intro _ hj68 gc68 hC sn wl VC pq
          obtain ⟨p9, q9, PP, tq⟩ := pq
          refine hd_aload pkX19_work rfl rfl (Int.natCast_nonneg _) ?_
          refine hd_ipush (z := 17) pkX19_work rfl ?_
          refine hd_aload pkX19_work rfl rfl (Int.natCast_nonneg _) ?_
          refine hd_getR (n := 2529) pkX19_work rfl (gc68.cell 0 rfl).1 (gc68.cell 0 rfl).2.1 (gc68.ref 14 rfl) ?_
          refine hd_iload pkX19_work rfl rfl ?_
          refine hd_iald (n := 144) pkX19_work rfl (gc68.cell 15 rfl) (by omega) (by omega) (fun v5 ev5 rv5 => ?_)
          have bta : -9999 ≤ v5 ∧ v5 ≤ 9999 := by rw [ev5]; exact (sn.2.2.2.1.2.2.2 _ (by omega) (by omega)).1
          obtain ⟨ta, qv5⟩ : ∃ x : Int, x = v5 := ⟨_, rfl⟩
          rw [← qv5] at bta
          subst qv5
          refine hd_aload pkX19_work rfl rfl (Int.natCast_nonneg _) ?_
          refine hd_getR (n := 2529) pkX19_work rfl (gc68.cell 0 rfl).1 (gc68.cell 0 rfl).2.1 (gc68.ref 14 rfl) ?_
          refine hd_iload pkX19_work rfl rfl ?_
          refine hd_ipush (z := 1) pkX19_work rfl ?_
          refine hd_iadd pkX19_work rfl (by omega) ?_
          refine hd_iald (n := 144) pkX19_work rfl (gc68.cell 15 rfl) (by omega) (by omega) (fun v6 ev6 rv6 => ?_)
          have btb : -9999 ≤ v6 ∧ v6 ≤ 9999 := by rw [ev6]; exact (sn.2.2.2.1.2.2.2 _ (by omega) (by omega)).1
          obtain ⟨tb, qv6⟩ : ∃ x : Int, x = v6 := ⟨_, rfl⟩
          rw [← qv6] at btb
          subst qv6
          refine hd_imul pkX19_work rfl (by have := pm_r bta btb; omega) ?_
          generalize ecf : (ta * tb) = cf
          have cfb : -99980001 ≤ cf ∧ cf ≤ 99980001 := by rw [← ecf]; exact pm_r bta btb
          refine hd_i2l pkX19_work rfl ?_
          have cb2 := pw2 (y := cf) ⟨by omega, by omega⟩
          refine hd_callV pkX19_work rfl (q := (KX19_times, yX19_times, 19, 2, 0)) rfl rfl rfl (As := [(0, 17), (1, cf)]) (rest := []) (c := 2514) rfl rfl (Nat.le_of_ble_eq_true rfl) (gc68.cell 0 rfl).1 (gc68.cell 0 rfl).2.1 (h_X19_times (m := 30) (n := 2) (by decide) (by decide) (by decide) (by decide) PP.1 (by omega) tq.1 cb2 (by decide) gc68) (hd_bV (fun hc7 pt => ?_))
          have ghc7 : Str t19 r19 hc7 := gc68.only pt.1.1 (by decide)
          have hC := hC.trans (pt.1.mono (by decide))
          have wl := wl.ch pt.1 (by decide)
          have sn := sn.only pt.1.1
          have VC := VC.keep (by decide) pt.1 (by decide) (by decide) (by decide) (by decide)
          have V8 := PP.2.1.keep (by decide) pt.1 (by decide) (by decide)
          have V7 := pt.2
          have b7 := PW_mk (k := 32) rfl tq.1 cb2
          refine hd_aload pkX19_work rfl rfl (Int.natCast_nonneg _) ?_
          refine hd_ipush (z := 18) pkX19_work rfl ?_
          refine hd_lpush (z := 100) pkX19_work rfl ?_
          refine hd_callV pkX19_work rfl (q := (KX19_times, yX19_times, 19, 2, 0)) rfl rfl rfl (As := [(0, 18), (1, 100)]) (rest := []) (c := 2514) rfl rfl (Nat.le_of_ble_eq_true rfl) (ghc7.cell 0 rfl).1 (ghc7.cell 0 rfl).2.1 (h_X19_times (m := 30) (n := 1) (by decide) (by decide) (by decide) (by decide) V8 (by decide) (by have := tq.2.1; have := tq.2.2.1; omega) (pw1 (by decide)) (by decide) ghc7) (hd_bV (fun hc8 pt => ?_))
          have ghc8 : Str t19 r19 hc8 := ghc7.only pt.1.1 (by decide)
          have hC := hC.trans (pt.1.mono (by decide))
          have wl := wl.ch pt.1 (by decide)
          have sn := sn.only pt.1.1
          have VC := VC.keep (by decide) pt.1 (by decide) (by decide) (by decide) (by decide)
          have V7 := V7.keep (by decide) pt.1 (by decide) (by decide)
          have V8 := pt.2
          have q0 : 0 < q9 * 100 := by have := tq.2.1; omega
          have b8 := PW_mk (x := q9) (m := 30) (k := 31) rfl (by have := tq.2.1; have := tq.2.2.1; omega) (pw1 (y := 100) (by decide))
          refine hd_aload pkX19_work rfl rfl (Int.natCast_nonneg _) ?_
          refine hd_ipush (z := 17) pkX19_work rfl ?_
          refine hd_ipush (z := 18) pkX19_work rfl ?_
          refine hd_callV pkX19_work rfl (q := (KX19_reduce, yX19_reduce, 19, 2, 0)) rfl rfl rfl (As := [(0, 17), (0, 18)]) (rest := []) (c := 2514) rfl rfl (Nat.le_of_ble_eq_true rfl) (ghc8.cell 0 rfl).1 (ghc8.cell 0 rfl).2.1 (h_X19_reduce (m := 32) (by decide) (by decide) (by decide) (by decide) (by decide) (by decide) (by decide) V7.1 V7.2.1 V8.1 (nv_vl V8 q0) (nv_su V7) q0 b7 (PW_up (PW_q q0 b8) (by decide)) (by decide) (by decide) ghc8) (hd_bV (fun hc9 pr => ?_))
          have ghc9 : Str t19 r19 hc9 := ghc8.only pr.1.1 (by decide)
          have hC := hC.trans (pr.1.mono (by decide))
          have wl := wl.ch pr.1 (by decide)
          have sn := sn.only pr.1.1
          have VC := VC.keep (by decide) pr.1 (by decide) (by decide) (by decide) (by decide)
          have VR := pr_reduce ⟨V7, V8, q0⟩ pr.2
          have bR := sz_term tq.1 tq.2.1 tq.2.2.1 cb2
          refine hd_aload pkX19_work rfl rfl (Int.natCast_nonneg _) ?_
          refine hd_ipush (z := 26) pkX19_work rfl ?_
          refine hd_ipush (z := 27) pkX19_work rfl ?_
          refine hd_ipush (z := 17) pkX19_work rfl ?_
          refine hd_ipush (z := 18) pkX19_work rfl ?_
          have bC := cs.sz asz wl.2.2.1 wl.2.2.2 dbd (by omega)
          refine hd_callV pkX19_work rfl (q := (KX19_addFraction, yX19_addFraction, 19, 4, 0)) rfl rfl rfl (As := [(0, 26), (0, 27), (0, 17), (0, 18)]) (rest := []) (c := 2514) rfl rfl (Nat.le_of_ble_eq_true rfl) (ghc9.cell 0 rfl).1 (ghc9.cell 0 rfl).2.1 (h_X19_addFraction (m1 := 62) (m2 := 32) (by decide) (by decide) (by decide) (by decide) (by decide) (by decide) (by decide) (by decide) (by decide) (by decide) (by decide) (by decide) (by decide) VC VR bC.1 bC.2 bR.1 bR.2 (by decide) ghc9) (hd_bV (fun hc10 pa => ?_))
          have ghc10 : Str t19 r19 hc10 := ghc9.only pa.1.1 (by decide)
          have hC := hC.trans (pa.1.mono (by decide))
          have wl := wl.ch pa.1 (by decide)
          have sn := sn.only pa.1.1
          have VC := pa.2.r (rat_add _ _)
          have cs := cs.add tq cb2
          refine hd_iinc (z := 1) pkX19_work rfl rfl (by omega) rfl ?_
          change MW _ _ _ _ _ [(2, (0, (i + 1))), (0, (2, ((2514 : Nat) : Int))), (1, (0, k)), (3, (0, ((18 * k) + (3 * i))))] _ _
          refine hd_goto pkX19_work rfl ?_
          refine m_sub [(0, (2, ((2514 : Nat) : Int))), (1, (0, k)), (2, (0, (i + 1)))] (List.forall_mem_cons.mpr ⟨rfl, List.forall_mem_cons.mpr ⟨rfl, List.forall_mem_cons.mpr ⟨rfl, fun _ h => absurd h List.not_mem_nil⟩⟩⟩) ?_
          refine ih10  ((i + 1)) hc10 ghc10 ?_ ?_ ?_ ?_ ?_ ?_
          · exact hC
          · exact sn
          · exact wl
          · omega
          · exact ⟨_, VC, by rw [show (i + 1).toNat = i.toNat + 1 by omega]; exact cs⟩
          · omega
        refine hd_aload pkX19_work rfl rfl (Int.natCast_nonneg _) ?_
        refine hd_getR (n := 2529) pkX19_work rfl (g10.cell 0 rfl).1 (g10.cell 0 rfl).2.1 (g10.ref 14 rfl) ?_
        refine hd_iload pkX19_work rfl rfl ?_
        refine hd_ipush (z := 2) pkX19_work rfl ?_
        refine hd_iadd pkX19_work rfl (by omega) ?_
        refine hd_iald (n := 144) pkX19_work rfl (g10.cell 15 rfl) (by omega) (by omega) (fun v11 ev11 rv11 => ?_)
        refine hd_ipush (z := 80) pkX19_work rfl ?_
        refine hd_ic_ne pkX19_work rfl (fun c12 => ?_) (fun c12 => ?_)
        · skip
          refine hd_aload pkX19_work rfl rfl (Int.natCast_nonneg _) ?_
          refine hd_getR (n := 2529) pkX19_work rfl (g10.cell 0 rfl).1 (g10.cell 0 rfl).2.1 (g10.ref 14 rfl) ?_
          refine hd_iload pkX19_work rfl rfl ?_
          refine hd_ipush (z := 2) pkX19_work rfl ?_
          refine hd_iadd pkX19_work rfl (by omega) ?_
          refine hd_iald (n := 144) pkX19_work rfl (g10.cell 15 rfl) (by omega) (by omega) (fun v13 ev13 rv13 => ?_)
          refine hd_ipush (z := 76) pkX19_work rfl ?_
          refine hd_ic_ne pkX19_work rfl (fun c14 => ?_) (fun c14 => ?_)
          · skip
            refine hd_aload pkX19_work rfl rfl (Int.natCast_nonneg _) ?_
            refine hd_getZ pkX19_work rfl (g10.cell 0 rfl).1 (g10.cell 0 rfl).2.1 (fun v15 ev15 rv15 => ?_)
            obtain ⟨hv, qv15⟩ : ∃ x : Int, x = v15 := ⟨_, rfl⟩
            have e13 : ga hi 2514 13 = hv := by rw [qv15, ev15]; rfl
            subst qv15
            refine hd_if_eq pkX19_work rfl (fun c16 => ?_) (fun c16 => ?_)
            · skip
              refine hd_aload pkX19_work rfl rfl (Int.natCast_nonneg _) ?_
              refine hd_ipush (z := 17) pkX19_work rfl ?_
              refine hd_lpush (z := 0) pkX19_work rfl ?_
              refine hd_callV pkX19_work rfl (q := (KX19_small, yX19_small, 19, 2, 0)) rfl rfl rfl (As := [(0, 17), (1, 0)]) (rest := []) (c := 2514) rfl rfl (Nat.le_of_ble_eq_true rfl) (g10.cell 0 rfl).1 (g10.cell 0 rfl).2.1 (h_X19_small (by decide) (by decide) (by decide) g10) (hd_bV (fun hc17 ps => ?_))
              have ghc17 : Str t19 r19 hc17 := g10.only ps.1.1 (by decide)
              have hC := hC.trans (ps.1.mono (by decide))
              have wl := wl.ch ps.1 (by decide)
              have sn := sn.only ps.1.1
              have VC := VC.keep (by decide) ps.1 (by decide) (by decide) (by decide) (by decide)
              have nA := nv_small ps
              refine hd_aload pkX19_work rfl rfl (Int.natCast_nonneg _) ?_
              refine hd_ipush (z := 18) pkX19_work rfl ?_
              refine hd_lpush (z := 1) pkX19_work rfl ?_
              refine hd_callV pkX19_work rfl (q := (KX19_small, yX19_small, 19, 2, 0)) rfl rfl rfl (As := [(0, 18), (1, 1)]) (rest := []) (c := 2514) rfl rfl (Nat.le_of_ble_eq_true rfl) (ghc17.cell 0 rfl).1 (ghc17.cell 0 rfl).2.1 (h_X19_small (by decide) (by decide) (by decide) ghc17) (hd_bV (fun hc18 ps => ?_))
              have ghc18 : Str t19 r19 hc18 := ghc17.only ps.1.1 (by decide)
              have hC := hC.trans (ps.1.mono (by decide))
              have wl := wl.ch ps.1 (by decide)
              have sn := sn.only ps.1.1
              have VC := VC.keep (by decide) ps.1 (by decide) (by decide) (by decide) (by decide)
              have nA := nA.keep (by decide) ps.1 (by decide) (nm1 (by decide))
              have nB := nv_small ps
              refine m_sub [(0, (2, ((2514 : Nat) : Int))), (1, (0, k)), (2, (0, i)), (3, (0, ((18 * k) + (3 * i))))] (List.forall_mem_cons.mpr ⟨rfl, List.forall_mem_cons.mpr ⟨rfl, List.forall_mem_cons.mpr ⟨rfl, List.forall_mem_cons.mpr ⟨rfl, fun _ h => absurd h List.not_mem_nil⟩⟩⟩⟩) ?_
              refine cut68 trivial hc18 ghc18 ?_ ?_ ?_ ?_ ?_
              · exact hC
              · exact sn
              · exact wl
              · exact VC
              · exact ⟨0, 1, ⟨nA, nB, by decide⟩, Tq.zero _⟩
            · skip
              refine hd_aload pkX19_work rfl rfl (Int.natCast_nonneg _) ?_
              refine hd_ipush (z := 16) pkX19_work rfl ?_
              refine hd_ipush (z := 17) pkX19_work rfl ?_
              have wp := wl.1 (by omega)
              refine hd_callV pkX19_work rfl (q := (KX19_copy, yX19_copy, 19, 2, 0)) rfl rfl rfl (As := [(0, 16), (0, 17)]) (rest := []) (c := 2514) rfl rfl (Nat.le_of_ble_eq_true rfl) (g10.cell 0 rfl).1 (g10.cell 0 rfl).2.1 (h_X19_copy (by decide) (by decide) (by decide) (by decide) wp.1.1 g10) (hd_bV (fun hc19 pc => ?_))
              have ghc19 : Str t19 r19 hc19 := g10.only pc.1.1 (by decide)
              have hC := hC.trans (pc.1.mono (by decide))
              have wl := wl.ch pc.1 (by decide)
              have sn := sn.only pc.1.1
              have VC := VC.keep (by decide) pc.1 (by decide) (by decide) (by decide) (by decide)
              have VL := wp.2.keep (by decide) pc.1 (by decide) (by decide)
              have V7 := nv_copy wp.1 pc
              refine hd_aload pkX19_work rfl rfl (Int.natCast_nonneg _) ?_
              refine hd_ipush (z := 14) pkX19_work rfl ?_
              refine hd_ipush (z := 18) pkX19_work rfl ?_
              refine hd_callV pkX19_work rfl (q := (KX19_copy, yX19_copy, 19, 2, 0)) rfl rfl rfl (As := [(0, 14), (0, 18)]) (rest := []) (c := 2514) rfl rfl (Nat.le_of_ble_eq_true rfl) (ghc19.cell 0 rfl).1 (ghc19.cell 0 rfl).2.1 (h_X19_copy (by decide) (by decide) (by decide) (by decide) VL.1 ghc19) (hd_bV (fun hc20 pc => ?_))
              have ghc20 : Str t19 r19 hc20 := ghc19.only pc.1.1 (by decide)
              have hC := hC.trans (pc.1.mono (by decide))
              have wl := wl.ch pc.1 (by decide)
              have sn := sn.only pc.1.1
              have VC := VC.keep (by decide) pc.1 (by decide) (by decide) (by decide) (by decide)
              have V7 := V7.keep (by decide) pc.1 (by decide) (by decide)
              have V8 := nv_copy VL pc
              refine hd_goto pkX19_work rfl ?_
              refine m_sub [(0, (2, ((2514 : Nat) : Int))), (1, (0, k)), (2, (0, i)), (3, (0, ((18 * k) + (3 * i))))] (List.forall_mem_cons.mpr ⟨rfl, List.forall_mem_cons.mpr ⟨rfl, List.forall_mem_cons.mpr ⟨rfl, List.forall_mem_cons.mpr ⟨rfl, fun _ h => absurd h List.not_mem_nil⟩⟩⟩⟩) ?_
              refine cut68 trivial hc20 ghc20 ?_ ?_ ?_ ?_ ?_
              · exact hC
              · exact sn
              · exact wl
              · exact VC
              · exact ⟨W, L, ⟨V7, V8, wl.2.2.1⟩, (Tq.frac asz wl.2.1 wl.2.2.1 wl.2.2.2 dbd ubd rfl).2⟩
          · skip
            refine hd_aload pkX19_work rfl rfl (Int.natCast_nonneg _) ?_
            refine hd_aload pkX19_work rfl rfl (Int.natCast_nonneg _) ?_
            refine hd_getI pkX19_work rfl (g10.cell 0 rfl).1 (g10.cell 0 rfl).2.1 (fun v21 ev21 rv21 => ?_)
            have qv21 : ga h 2514 21 = v21 := by rw [ev21]; exact (hC.1.ga (by decide) _).symm
            subst qv21
            have e2525 : ga hi 2525 = ga h 2525 := funext fun j => hC.1.ga (by decide) j
            have e2526 : ga hi 2526 = ga h 2526 := funext fun j => hC.1.ga (by decide) j
            have e21 : ga hi 2514 21 = ga h 2514 21 := hC.1.ga (by decide) _
            have e13 : ga hi 2514 13 = ga h 2514 13 := hC.1.ga (by decide) _
            refine hd_callV pkX19_work rfl (q := (KX19_laneSum, yX19_laneSum, 19, 1, 0)) rfl rfl rfl (As := [(0, (ga h 2514 21))]) (rest := []) (c := 2514) rfl rfl (Nat.le_of_ble_eq_true rfl) (g10.cell 0 rfl).1 (g10.cell 0 rfl).2.1 (h_X19_laneSum sn ⟨l21.1, by rw [e21]; omega⟩ wl g10) (hd_bV (fun hc22 pl => ?_))
            have ghc22 : Str t19 r19 hc22 := g10.only pl.1.1 (by decide)
            have hC := hC.trans (pl.1.mono (by decide))
            have wl := pl.2.1
            have sn := sn.only pl.1.1
            have VC := VC.keep (by decide) pl.1 (by decide) (by decide) (by decide) (by decide)
            have VU := pl.2.2
            rw [e2525, e2526, e13] at VU
            refine hd_goto pkX19_work rfl ?_
            refine m_sub [(0, (2, ((2514 : Nat) : Int))), (1, (0, k)), (2, (0, i)), (3, (0, ((18 * k) + (3 * i))))] (List.forall_mem_cons.mpr ⟨rfl, List.forall_mem_cons.mpr ⟨rfl, List.forall_mem_cons.mpr ⟨rfl, List.forall_mem_cons.mpr ⟨rfl, fun _ h => absurd h List.not_mem_nil⟩⟩⟩⟩) ?_
            refine cut68 trivial hc22 ghc22 ?_ ?_ ?_ ?_ ?_
            · exact hC
            · exact sn
            · exact wl
            · exact VC
            · by_cases z13 : ga h 2514 13 = 0
              · rw [if_pos z13] at VU
                exact ⟨0, 1, VU, Tq.zero _⟩
              · rw [if_neg z13] at VU
                have tq := (Tq.frac asz wl.2.1 wl.2.2.1 wl.2.2.2 dbd ubd rfl).1
                generalize W * (lnP (ga h 2525) (ga h 2526) (ga h 2514 21).toNat).1 = p9 at VU tq
                generalize L * (lnP (ga h 2525) (ga h 2526) (ga h 2514 21).toNat).2 = q9 at VU tq
                exact ⟨_, _, VU, Tq.red tq⟩
        · skip
          refine hd_aload pkX19_work rfl rfl (Int.natCast_nonneg _) ?_
          have e2517 : ga hi 2517 = ga h 2517 := funext fun j => hC.1.ga (by decide) j
          have e2518 : ga hi 2518 = ga h 2518 := funext fun j => hC.1.ga (by decide) j
          have e2519 : ga hi 2519 = ga h 2519 := funext fun j => hC.1.ga (by decide) j
          refine hd_callV pkX19_work rfl (q := (KX19_area, yX19_area, 19, 0, 0)) rfl rfl rfl (As := []) (rest := []) (c := 2514) rfl rfl (Nat.le_of_ble_eq_true rfl) (g10.cell 0 rfl).1 (g10.cell 0 rfl).2.1 (h_X19_area sn g10) (hd_bV (fun hc23 pa => ?_))
          have ghc23 : Str t19 r19 hc23 := g10.only pa.1.1 (by decide)
          have hC := hC.trans (pa.1.mono (by decide))
          have wl := wl.ch pa.1 (by decide)
          have sn := sn.only pa.1.1
          have VC := VC.keep (by decide) pa.1 (by decide) (by decide) (by decide) (by decide)
          have VU := pa.2.1
          have ad := pa.2.2
          rw [e2517, e2518, e2519] at VU ad
          refine hd_goto pkX19_work rfl ?_
          refine m_sub [(0, (2, ((2514 : Nat) : Int))), (1, (0, k)), (2, (0, i)), (3, (0, ((18 * k) + (3 * i))))] (List.forall_mem_cons.mpr ⟨rfl, List.forall_mem_cons.mpr ⟨rfl, List.forall_mem_cons.mpr ⟨rfl, List.forall_mem_cons.mpr ⟨rfl, fun _ h => absurd h List.not_mem_nil⟩⟩⟩⟩) ?_
          refine cut68 trivial hc23 ghc23 ?_ ?_ ?_ ?_ ?_
          · exact hC
          · exact sn
          · exact wl
          · exact VC
          · exact ⟨_, _, VU, Tq.area asz wl.2.2.1 wl.2.2.2 dbd⟩
  refine m_sub [(0, (2, ((2514 : Nat) : Int))), (1, (0, k)), (2, (0, 0))] (List.forall_mem_cons.mpr ⟨rfl, List.forall_mem_cons.mpr ⟨rfl, List.forall_mem_cons.mpr ⟨rfl, fun _ h => absurd h List.not_mem_nil⟩⟩⟩) ?_
  refine lp10 (((6 : Int) - (0)) + 1).toNat (0) hc2 ghc2 ?_ ?_ ?_ ?_ ?_ ?_
  · exact hC
  · exact sn
  · exact wl
  · omega
  · exact ⟨0, VC, Cs.zero _⟩
  · omega
