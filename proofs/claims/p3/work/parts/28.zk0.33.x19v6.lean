set_option maxRecDepth 20000 in
set_option maxHeartbeats 8000000 in
theorem h_X19_stretch {h : MH} {k cn : Int} (sn : S19 h cn) (g : Str t19 r19 h) : MCal KX19_stretch yX19_stretch 0 0 [(2, ((2514 : Nat) : Int)), (0, k)] h (mRI fun v h' => ((-1 ≤ v ∧ v ≤ 14) ∧ (0 ≤ k → v = -1 ∨ (0 ≤ v ∧ v + 1 < cn))) ∧ h' = h) := by
  refine MCal.ofMW (Or.inl rfl) ⟨cp_X19, rfl⟩ (Nat.le_of_ble_eq_true rfl) ?_
  generalize eQ : (mRI fun v h' => ((-1 ≤ v ∧ v ≤ 14) ∧ (0 ≤ k → v = -1 ∨ (0 ≤ v ∧ v + 1 < cn))) ∧ h' = h : MO → MH → Prop) = Q
  change MW KX19_stretch Q 0 0 (pcA pgX19_stretch 0) [(0, (2, ((2514 : Nat) : Int))), (1, (0, k))] [] h
  refine hd_locI (i := 1) rfl (fun rk => ?_)
  have cb := sn.1.2.1
  refine hd_ipush (z := (-1)) pkX19_stretch rfl ?_
  refine hd_istore pkX19_stretch rfl rfl ?_
  change MW _ _ _ _ _ [(2, (0, (-1))), (0, (2, ((2514 : Nat) : Int))), (1, (0, k))] _ _
  refine hd_ipush (z := 0) pkX19_stretch rfl ?_
  refine hd_istore pkX19_stretch rfl rfl ?_
  change MW _ _ _ _ _ [(3, (0, 0)), (2, (0, (-1))), (0, (2, ((2514 : Nat) : Int))), (1, (0, k))] _ _
  have lp4 : ∀ (N4 : Nat) (se c : Int), (0 ≤ c ∧ (c < cn ∨ c = 0)) → (-1 ≤ se ∧ se ≤ c - 1) → cn + 1 - c < (N4 : Int) → MW KX19_stretch Q 0 0 (pcA pgX19_stretch 4) [(0, (2, ((2514 : Nat) : Int))), (1, (0, k)), (2, (0, se)), (3, (0, c))] [] h := by
    intro N4
    induction N4 with
    | zero => intro se c c0 s0 hm4; exfalso; omega
    | succ N4 ih4 =>
      intro se c c0 s0 hm4
      refine hd_iload pkX19_stretch rfl rfl ?_
      refine hd_ipush (z := 1) pkX19_stretch rfl ?_
      refine hd_iadd pkX19_stretch rfl (by omega) ?_
      refine hd_aload pkX19_stretch rfl rfl (Int.natCast_nonneg _) ?_
      refine hd_getI pkX19_stretch rfl (g.cell 0 rfl).1 (g.cell 0 rfl).2.1 (fun v1 ev1 rv1 => ?_)
      have qv1 : cn = v1 := by rw [ev1]; exact sn.1.1.symm
      subst qv1
      refine hd_ic_ge pkX19_stretch rfl (fun c2 => ?_) (fun c2 => ?_)
      · skip
        refine hd_iload pkX19_stretch rfl rfl ?_
        refine hd_if_ge pkX19_stretch rfl (fun c3 => ?_) (fun c3 => ?_)
        · skip
          refine hd_ipush (z := (-1)) pkX19_stretch rfl ?_
          refine hd_iret pkX19_stretch rfl ?_
          subst eQ
          refine ⟨rfl, rfl, ⟨?_, fun q => ?_⟩, rfl⟩
          · show -1 ≤ ((-1) : Int) ∧ ((-1) : Int) ≤ 14
            omega
          · show ((-1) : Int) = -1 ∨ (0 ≤ ((-1) : Int) ∧ ((-1) : Int) + 1 < cn)
            omega
        · skip
          refine hd_iload pkX19_stretch rfl rfl ?_
          refine hd_ipush (z := 1) pkX19_stretch rfl ?_
          refine hd_iadd pkX19_stretch rfl (by omega) ?_
          refine hd_goto pkX19_stretch rfl ?_
          refine hd_iret pkX19_stretch rfl ?_
          subst eQ
          refine ⟨rfl, rfl, ⟨?_, fun q => ?_⟩, rfl⟩
          · show -1 ≤ ((se + 1) : Int) ∧ ((se + 1) : Int) ≤ 14
            omega
          · show ((se + 1) : Int) = -1 ∨ (0 ≤ ((se + 1) : Int) ∧ ((se + 1) : Int) + 1 < cn)
            omega
      · skip
        have cut47 : ∀ (bg : Int), (bg = 0 ∨ bg = 1) → MW KX19_stretch Q 0 0 (pcA pgX19_stretch 47) [(0, (2, ((2514 : Nat) : Int))), (1, (0, k)), (2, (0, se)), (3, (0, c))] [(0, bg)] h := by
          intro bg bgv
          refine hd_istore pkX19_stretch rfl rfl ?_
          change MW _ _ _ _ _ [(4, (0, bg)), (0, (2, ((2514 : Nat) : Int))), (1, (0, k)), (2, (0, se)), (3, (0, c))] _ _
          refine hd_iload pkX19_stretch rfl rfl ?_
          have cut54 : ∀ (ad : Int), (ad = 0 ∨ ad = 1) → MW KX19_stretch Q 0 0 (pcA pgX19_stretch 54) [(0, (2, ((2514 : Nat) : Int))), (1, (0, k)), (2, (0, se)), (3, (0, c)), (4, (0, bg))] [(0, ad), (0, se)] h := by
            intro ad adv
            refine hd_iadd pkX19_stretch rfl (by omega) ?_
            refine hd_istore pkX19_stretch rfl rfl ?_
            change MW _ _ _ _ _ [(2, (0, (se + ad))), (0, (2, ((2514 : Nat) : Int))), (1, (0, k)), (3, (0, c)), (4, (0, bg))] _ _
            refine hd_iload pkX19_stretch rfl rfl ?_
            refine hd_if_eq pkX19_stretch rfl (fun c4 => ?_) (fun c4 => ?_)
            · skip
              refine hd_iinc (z := 1) pkX19_stretch rfl rfl (by omega) rfl ?_
              change MW _ _ _ _ _ [(3, (0, (c + 1))), (2, (0, (se + ad))), (0, (2, ((2514 : Nat) : Int))), (1, (0, k)), (4, (0, bg))] _ _
              refine hd_goto pkX19_stretch rfl ?_
              refine m_sub [(0, (2, ((2514 : Nat) : Int))), (1, (0, k)), (2, (0, (se + ad))), (3, (0, (c + 1)))] (List.forall_mem_cons.mpr ⟨rfl, List.forall_mem_cons.mpr ⟨rfl, List.forall_mem_cons.mpr ⟨rfl, List.forall_mem_cons.mpr ⟨rfl, fun _ h => absurd h List.not_mem_nil⟩⟩⟩⟩) ?_
              refine ih4  ((se + ad)) ((c + 1)) ?_ ?_ ?_
              · omega
              · omega
              · omega
            · skip
              refine hd_iload pkX19_stretch rfl rfl ?_
              refine hd_iload pkX19_stretch rfl rfl ?_
              refine hd_ic_ne pkX19_stretch rfl (fun c5 => ?_) (fun c5 => ?_)
              · skip
                refine hd_iinc (z := 1) pkX19_stretch rfl rfl (by omega) rfl ?_
                change MW _ _ _ _ _ [(3, (0, (c + 1))), (2, (0, (se + ad))), (0, (2, ((2514 : Nat) : Int))), (1, (0, k)), (4, (0, bg))] _ _
                refine hd_goto pkX19_stretch rfl ?_
                refine m_sub [(0, (2, ((2514 : Nat) : Int))), (1, (0, k)), (2, (0, (se + ad))), (3, (0, (c + 1)))] (List.forall_mem_cons.mpr ⟨rfl, List.forall_mem_cons.mpr ⟨rfl, List.forall_mem_cons.mpr ⟨rfl, List.forall_mem_cons.mpr ⟨rfl, fun _ h => absurd h List.not_mem_nil⟩⟩⟩⟩) ?_
                refine ih4  ((se + ad)) ((c + 1)) ?_ ?_ ?_
                · omega
                · omega
                · omega
              · skip
                refine hd_iload pkX19_stretch rfl rfl ?_
                refine hd_iret pkX19_stretch rfl ?_
                subst eQ
                refine ⟨rfl, rfl, ⟨?_, fun q => ?_⟩, rfl⟩
                · show -1 ≤ (c : Int) ∧ (c : Int) ≤ 14
                  omega
                · show (c : Int) = -1 ∨ (0 ≤ (c : Int) ∧ (c : Int) + 1 < cn)
                  omega
          refine hd_iload pkX19_stretch rfl rfl ?_
          refine hd_if_eq pkX19_stretch rfl (fun c6 => ?_) (fun c6 => ?_)
          · skip
            refine hd_ipush (z := 0) pkX19_stretch rfl ?_
            refine m_sub [(0, (2, ((2514 : Nat) : Int))), (1, (0, k)), (2, (0, se)), (3, (0, c)), (4, (0, bg))] (List.forall_mem_cons.mpr ⟨rfl, List.forall_mem_cons.mpr ⟨rfl, List.forall_mem_cons.mpr ⟨rfl, List.forall_mem_cons.mpr ⟨rfl, List.forall_mem_cons.mpr ⟨rfl, fun _ h => absurd h List.not_mem_nil⟩⟩⟩⟩⟩) ?_
            refine cut54 (0) ?_
            · omega
          · skip
            refine hd_ipush (z := 1) pkX19_stretch rfl ?_
            refine hd_goto pkX19_stretch rfl ?_
            refine m_sub [(0, (2, ((2514 : Nat) : Int))), (1, (0, k)), (2, (0, se)), (3, (0, c)), (4, (0, bg))] (List.forall_mem_cons.mpr ⟨rfl, List.forall_mem_cons.mpr ⟨rfl, List.forall_mem_cons.mpr ⟨rfl, List.forall_mem_cons.mpr ⟨rfl, List.forall_mem_cons.mpr ⟨rfl, fun _ h => absurd h List.not_mem_nil⟩⟩⟩⟩⟩) ?_
            refine cut54 (1) ?_
            · omega
        refine hd_iload pkX19_stretch rfl rfl ?_
        refine hd_if_ne pkX19_stretch rfl (fun c7 => ?_) (fun c7 => ?_)
        · skip
          refine hd_aload pkX19_stretch rfl rfl (Int.natCast_nonneg _) ?_
          refine hd_getR (n := 2518) pkX19_stretch rfl (g.cell 0 rfl).1 (g.cell 0 rfl).2.1 (g.ref 3 rfl) ?_
          refine hd_iload pkX19_stretch rfl rfl ?_
          refine hd_lald (n := 14) pkX19_stretch rfl (g.cell 4 rfl) (by omega) (by omega) (fun v8 ev8 rv8 => ?_)
          refine hd_lpush (z := 0) pkX19_stretch rfl ?_
          refine hd_lc_gt pkX19_stretch rfl (fun c9 => ?_) (fun c9 => ?_)
          · skip
            refine hd_iload pkX19_stretch rfl rfl ?_
            refine hd_if_ne pkX19_stretch rfl (fun c10 => ?_) (fun c10 => ?_)
            · skip
              refine hd_ipush (z := 0) pkX19_stretch rfl ?_
              refine cut47 (0) ?_
              · omega
            · skip
              refine hd_aload pkX19_stretch rfl rfl (Int.natCast_nonneg _) ?_
              refine hd_getR (n := 2518) pkX19_stretch rfl (g.cell 0 rfl).1 (g.cell 0 rfl).2.1 (g.ref 3 rfl) ?_
              refine hd_ipush (z := 1) pkX19_stretch rfl ?_
              refine hd_lald (n := 14) pkX19_stretch rfl (g.cell 4 rfl) (by omega) (by omega) (fun v11 ev11 rv11 => ?_)
              refine hd_lpush (z := 0) pkX19_stretch rfl ?_
              refine hd_lc_le pkX19_stretch rfl (fun c12 => ?_) (fun c12 => ?_)
              · skip
                refine hd_ipush (z := 0) pkX19_stretch rfl ?_
                refine cut47 (0) ?_
                · omega
              · skip
                refine hd_ipush (z := 1) pkX19_stretch rfl ?_
                refine hd_goto pkX19_stretch rfl ?_
                refine cut47 (1) ?_
                · omega
          · skip
            refine hd_aload pkX19_stretch rfl rfl (Int.natCast_nonneg _) ?_
            refine hd_getR (n := 2518) pkX19_stretch rfl (g.cell 0 rfl).1 (g.cell 0 rfl).2.1 (g.ref 3 rfl) ?_
            refine hd_iload pkX19_stretch rfl rfl ?_
            refine hd_ipush (z := 1) pkX19_stretch rfl ?_
            refine hd_iadd pkX19_stretch rfl (by omega) ?_
            refine hd_lald (n := 14) pkX19_stretch rfl (g.cell 4 rfl) (by omega) (by omega) (fun v13 ev13 rv13 => ?_)
            refine hd_lpush (z := 0) pkX19_stretch rfl ?_
            refine hd_lc_gt pkX19_stretch rfl (fun c14 => ?_) (fun c14 => ?_)
            · skip
              refine hd_ipush (z := 1) pkX19_stretch rfl ?_
              refine hd_goto pkX19_stretch rfl ?_
              refine cut47 (1) ?_
              · omega
            · skip
              refine hd_iload pkX19_stretch rfl rfl ?_
              refine hd_if_ne pkX19_stretch rfl (fun c15 => ?_) (fun c15 => ?_)
              · skip
                refine hd_ipush (z := 0) pkX19_stretch rfl ?_
                refine cut47 (0) ?_
                · omega
              · skip
                refine hd_aload pkX19_stretch rfl rfl (Int.natCast_nonneg _) ?_
                refine hd_getR (n := 2518) pkX19_stretch rfl (g.cell 0 rfl).1 (g.cell 0 rfl).2.1 (g.ref 3 rfl) ?_
                refine hd_ipush (z := 1) pkX19_stretch rfl ?_
                refine hd_lald (n := 14) pkX19_stretch rfl (g.cell 4 rfl) (by omega) (by omega) (fun v16 ev16 rv16 => ?_)
                refine hd_lpush (z := 0) pkX19_stretch rfl ?_
                refine hd_lc_le pkX19_stretch rfl (fun c17 => ?_) (fun c17 => ?_)
                · skip
                  refine hd_ipush (z := 0) pkX19_stretch rfl ?_
                  refine cut47 (0) ?_
                  · omega
                · skip
                  refine hd_ipush (z := 1) pkX19_stretch rfl ?_
                  refine hd_goto pkX19_stretch rfl ?_
                  refine cut47 (1) ?_
                  · omega
        · skip
          refine hd_aload pkX19_stretch rfl rfl (Int.natCast_nonneg _) ?_
          refine hd_getR (n := 2518) pkX19_stretch rfl (g.cell 0 rfl).1 (g.cell 0 rfl).2.1 (g.ref 3 rfl) ?_
          refine hd_ipush (z := 0) pkX19_stretch rfl ?_
          refine hd_lald (n := 14) pkX19_stretch rfl (g.cell 4 rfl) (by omega) (by omega) (fun v18 ev18 rv18 => ?_)
          refine hd_lpush (z := 0) pkX19_stretch rfl ?_
          refine hd_lc_gt pkX19_stretch rfl (fun c19 => ?_) (fun c19 => ?_)
          · skip
            refine hd_ipush (z := 1) pkX19_stretch rfl ?_
            refine hd_goto pkX19_stretch rfl ?_
            refine cut47 (1) ?_
            · omega
          · skip
            refine hd_aload pkX19_stretch rfl rfl (Int.natCast_nonneg _) ?_
            refine hd_getR (n := 2518) pkX19_stretch rfl (g.cell 0 rfl).1 (g.cell 0 rfl).2.1 (g.ref 3 rfl) ?_
            refine hd_iload pkX19_stretch rfl rfl ?_
            refine hd_lald (n := 14) pkX19_stretch rfl (g.cell 4 rfl) (by omega) (by omega) (fun v20 ev20 rv20 => ?_)
            refine hd_lpush (z := 0) pkX19_stretch rfl ?_
            refine hd_lc_gt pkX19_stretch rfl (fun c21 => ?_) (fun c21 => ?_)
            · skip
              refine hd_iload pkX19_stretch rfl rfl ?_
              refine hd_if_ne pkX19_stretch rfl (fun c22 => ?_) (fun c22 => ?_)
              · skip
                refine hd_ipush (z := 0) pkX19_stretch rfl ?_
                refine cut47 (0) ?_
                · omega
              · skip
                refine hd_aload pkX19_stretch rfl rfl (Int.natCast_nonneg _) ?_
                refine hd_getR (n := 2518) pkX19_stretch rfl (g.cell 0 rfl).1 (g.cell 0 rfl).2.1 (g.ref 3 rfl) ?_
                refine hd_ipush (z := 1) pkX19_stretch rfl ?_
                refine hd_lald (n := 14) pkX19_stretch rfl (g.cell 4 rfl) (by omega) (by omega) (fun v23 ev23 rv23 => ?_)
                refine hd_lpush (z := 0) pkX19_stretch rfl ?_
                refine hd_lc_le pkX19_stretch rfl (fun c24 => ?_) (fun c24 => ?_)
                · skip
                  refine hd_ipush (z := 0) pkX19_stretch rfl ?_
                  refine cut47 (0) ?_
                  · omega
                · skip
                  refine hd_ipush (z := 1) pkX19_stretch rfl ?_
                  refine hd_goto pkX19_stretch rfl ?_
                  refine cut47 (1) ?_
                  · omega
            · skip
              refine hd_aload pkX19_stretch rfl rfl (Int.natCast_nonneg _) ?_
              refine hd_getR (n := 2518) pkX19_stretch rfl (g.cell 0 rfl).1 (g.cell 0 rfl).2.1 (g.ref 3 rfl) ?_
              refine hd_iload pkX19_stretch rfl rfl ?_
              refine hd_ipush (z := 1) pkX19_stretch rfl ?_
              refine hd_iadd pkX19_stretch rfl (by omega) ?_
              refine hd_lald (n := 14) pkX19_stretch rfl (g.cell 4 rfl) (by omega) (by omega) (fun v25 ev25 rv25 => ?_)
              refine hd_lpush (z := 0) pkX19_stretch rfl ?_
              refine hd_lc_gt pkX19_stretch rfl (fun c26 => ?_) (fun c26 => ?_)
              · skip
                refine hd_ipush (z := 1) pkX19_stretch rfl ?_
                refine hd_goto pkX19_stretch rfl ?_
                refine cut47 (1) ?_
                · omega
              · skip
                refine hd_iload pkX19_stretch rfl rfl ?_
                refine hd_if_ne pkX19_stretch rfl (fun c27 => ?_) (fun c27 => ?_)
                · skip
                  refine hd_ipush (z := 0) pkX19_stretch rfl ?_
                  refine cut47 (0) ?_
                  · omega
                · skip
                  refine hd_aload pkX19_stretch rfl rfl (Int.natCast_nonneg _) ?_
                  refine hd_getR (n := 2518) pkX19_stretch rfl (g.cell 0 rfl).1 (g.cell 0 rfl).2.1 (g.ref 3 rfl) ?_
                  refine hd_ipush (z := 1) pkX19_stretch rfl ?_
                  refine hd_lald (n := 14) pkX19_stretch rfl (g.cell 4 rfl) (by omega) (by omega) (fun v28 ev28 rv28 => ?_)
                  refine hd_lpush (z := 0) pkX19_stretch rfl ?_
                  refine hd_lc_le pkX19_stretch rfl (fun c29 => ?_) (fun c29 => ?_)
                  · skip
                    refine hd_ipush (z := 0) pkX19_stretch rfl ?_
                    refine cut47 (0) ?_
                    · omega
                  · skip
                    refine hd_ipush (z := 1) pkX19_stretch rfl ?_
                    refine hd_goto pkX19_stretch rfl ?_
                    refine cut47 (1) ?_
                    · omega
  refine m_sub [(0, (2, ((2514 : Nat) : Int))), (1, (0, k)), (2, (0, (-1))), (3, (0, 0))] (List.forall_mem_cons.mpr ⟨rfl, List.forall_mem_cons.mpr ⟨rfl, List.forall_mem_cons.mpr ⟨rfl, List.forall_mem_cons.mpr ⟨rfl, fun _ h => absurd h List.not_mem_nil⟩⟩⟩⟩) ?_
  refine lp4 ((cn + 1 - (0)) + 1).toNat ((-1)) (0) ?_ ?_ ?_
  · omega
  · omega
  · omega
set_option maxRecDepth 20000 in
set_option maxHeartbeats 8000000 in
theorem h_X19_meets {h : MH} {c cn : Int} (sn : S19 h cn) (hc : 0 ≤ c ∧ c + 1 < cn) (nz : ga h 2518 c ≠ 0 ∨ ga h 2518 (c + 1) ≠ 0) (g : Str t19 r19 h) : MCal KX19_meets yX19_meets 0 0 [(2, ((2514 : Nat) : Int)), (0, c)] h (mRL fun v h' => (0 ≤ v ∧ v ≤ 800) ∧ h' = h) := by
  refine MCal.ofMW (Or.inl rfl) ⟨cp_X19, rfl⟩ (Nat.le_of_ble_eq_true rfl) ?_
  generalize eQ : (mRL fun v h' => (0 ≤ v ∧ v ≤ 800) ∧ h' = h : MO → MH → Prop) = Q
  change MW KX19_meets Q 0 0 (pcA pgX19_meets 0) [(0, (2, ((2514 : Nat) : Int))), (1, (0, c))] [] h
  refine hd_locI (i := 1) rfl (fun rc => ?_)
  have cb := sn.1.2.1
  refine hd_aload pkX19_meets rfl rfl (Int.natCast_nonneg _) ?_
  refine hd_getR (n := 2518) pkX19_meets rfl (g.cell 0 rfl).1 (g.cell 0 rfl).2.1 (g.ref 3 rfl) ?_
  refine hd_iload pkX19_meets rfl rfl ?_
  refine hd_lald (n := 14) pkX19_meets rfl (g.cell 4 rfl) (by omega) (by omega) (fun v1 ev1 rv1 => ?_)
  have ba := (sn.1.2.2.1 (c) (by omega) (by omega)).2.1
  obtain ⟨a, qv1⟩ : ∃ x : Int, x = v1 := ⟨_, rfl⟩
  have ea : a = ga h 2518 (c) := qv1.trans ev1
  rw [← ea] at ba
  subst qv1
  refine hd_callS pkX19_meets rfl (q := (KX19_plain, yX19_plain, 19, 1, 1)) rfl rfl rfl (As := [(1, a)]) (rest := []) rfl rfl (Nat.le_of_ble_eq_true rfl) rfl (h_X19_plain ba g) (hd_bL (fun p1 hc2 pp1 => ?_))
  obtain ⟨pp1, ehc2⟩ := pp1
  replace ehc2 := ehc2.symm
  subst ehc2
  subst pp1
  refine hd_aload pkX19_meets rfl rfl (Int.natCast_nonneg _) ?_
  refine hd_getR (n := 2519) pkX19_meets rfl (g.cell 0 rfl).1 (g.cell 0 rfl).2.1 (g.ref 4 rfl) ?_
  refine hd_iload pkX19_meets rfl rfl ?_
  refine hd_ipush (z := 1) pkX19_meets rfl ?_
  refine hd_iadd pkX19_meets rfl (by omega) ?_
  refine hd_lald (n := 14) pkX19_meets rfl (g.cell 5 rfl) (by omega) (by omega) (fun v3 ev3 rv3 => ?_)
  have bd := (sn.1.2.2.1 (c + 1) (by omega) (by omega)).2.2
  obtain ⟨d, qv3⟩ : ∃ x : Int, x = v3 := ⟨_, rfl⟩
  have ed : d = ga h 2519 (c + 1) := qv3.trans ev3
  rw [← ed] at bd
  subst qv3
  refine hd_lmul pkX19_meets rfl (by have := mul_b (pa_b ba) (show 0 ≤ d ∧ d ≤ 1000 by omega); omega) ?_
  generalize exo : (pa a * d) = xo
  have bxo := mul_b (pa_b ba) (show 0 ≤ d ∧ d ≤ 1000 by omega)
  have pxo : a ≠ 0 → 0 < xo := fun w => by
    have z : 0 < pa a := by
      unfold pa
      split <;> omega
    rw [← exo]
    exact Int.mul_pos z (by omega)
  rw [exo] at bxo
  refine hd_lstore pkX19_meets rfl rfl ?_
  change MW _ _ _ _ _ [(2, (1, xo)), (0, (2, ((2514 : Nat) : Int))), (1, (0, c))] _ _
  refine hd_aload pkX19_meets rfl rfl (Int.natCast_nonneg _) ?_
  refine hd_getR (n := 2518) pkX19_meets rfl (g.cell 0 rfl).1 (g.cell 0 rfl).2.1 (g.ref 3 rfl) ?_
  refine hd_iload pkX19_meets rfl rfl ?_
  refine hd_ipush (z := 1) pkX19_meets rfl ?_
  refine hd_iadd pkX19_meets rfl (by omega) ?_
  refine hd_lald (n := 14) pkX19_meets rfl (g.cell 4 rfl) (by omega) (by omega) (fun v4 ev4 rv4 => ?_)
  have bb := (sn.1.2.2.1 (c + 1) (by omega) (by omega)).2.1
  obtain ⟨b, qv4⟩ : ∃ x : Int, x = v4 := ⟨_, rfl⟩
  have eb : b = ga h 2518 (c + 1) := qv4.trans ev4
  rw [← eb] at bb
  subst qv4
  refine hd_callS pkX19_meets rfl (q := (KX19_plain, yX19_plain, 19, 1, 1)) rfl rfl rfl (As := [(1, b)]) (rest := []) rfl rfl (Nat.le_of_ble_eq_true rfl) rfl (h_X19_plain bb g) (hd_bL (fun p2 hc5 pp2 => ?_))
  obtain ⟨pp2, ehc5⟩ := pp2
  replace ehc5 := ehc5.symm
  subst ehc5
  subst pp2
  refine hd_aload pkX19_meets rfl rfl (Int.natCast_nonneg _) ?_
  refine hd_getR (n := 2519) pkX19_meets rfl (g.cell 0 rfl).1 (g.cell 0 rfl).2.1 (g.ref 4 rfl) ?_
  refine hd_iload pkX19_meets rfl rfl ?_
  refine hd_lald (n := 14) pkX19_meets rfl (g.cell 5 rfl) (by omega) (by omega) (fun v6 ev6 rv6 => ?_)
  have bf := (sn.1.2.2.1 (c) (by omega) (by omega)).2.2
  obtain ⟨f, qv6⟩ : ∃ x : Int, x = v6 := ⟨_, rfl⟩
  have ef : f = ga h 2519 (c) := qv6.trans ev6
  rw [← ef] at bf
  subst qv6
  refine hd_lmul pkX19_meets rfl (by have := mul_b (pa_b bb) (show 0 ≤ f ∧ f ≤ 1000 by omega); omega) ?_
  generalize eyo : (pa b * f) = yo
  have byo := mul_b (pa_b bb) (show 0 ≤ f ∧ f ≤ 1000 by omega)
  have pyo : b ≠ 0 → 0 < yo := fun w => by
    have z : 0 < pa b := by
      unfold pa
      split <;> omega
    rw [← eyo]
    exact Int.mul_pos z (by omega)
  rw [eyo] at byo
  have xy0 : 0 < xo + yo := by
    rcases nz with w | w
    · have := pxo (by rw [ea]; exact w)
      omega
    · have := pyo (by rw [eb]; exact w)
      omega
  refine hd_lstore pkX19_meets rfl rfl ?_
  change MW _ _ _ _ _ [(4, (1, yo)), (2, (1, xo)), (0, (2, ((2514 : Nat) : Int))), (1, (0, c))] _ _
  refine hd_aload pkX19_meets rfl rfl (Int.natCast_nonneg _) ?_
  refine hd_getR (n := 2517) pkX19_meets rfl (g.cell 0 rfl).1 (g.cell 0 rfl).2.1 (g.ref 2 rfl) ?_
  refine hd_iload pkX19_meets rfl rfl ?_
  refine hd_iald (n := 14) pkX19_meets rfl (g.cell 3 rfl) (by omega) (by omega) (fun v7 ev7 rv7 => ?_)
  have bp := (sn.1.2.2.1 (c) (by omega) (by omega)).1
  obtain ⟨p, qv7⟩ : ∃ x : Int, x = v7 := ⟨_, rfl⟩
  have ep : p = ga h 2517 (c) := qv7.trans ev7
  rw [← ep] at bp
  subst qv7
  refine hd_i2l pkX19_meets rfl ?_
  refine hd_aload pkX19_meets rfl rfl (Int.natCast_nonneg _) ?_
  refine hd_getR (n := 2517) pkX19_meets rfl (g.cell 0 rfl).1 (g.cell 0 rfl).2.1 (g.ref 2 rfl) ?_
  refine hd_iload pkX19_meets rfl rfl ?_
  refine hd_ipush (z := 1) pkX19_meets rfl ?_
  refine hd_iadd pkX19_meets rfl (by omega) ?_
  refine hd_iald (n := 14) pkX19_meets rfl (g.cell 3 rfl) (by omega) (by omega) (fun v8 ev8 rv8 => ?_)
  have bq := (sn.1.2.2.1 (c + 1) (by omega) (by omega)).1
  obtain ⟨q, qv8⟩ : ∃ x : Int, x = v8 := ⟨_, rfl⟩
  have eq : q = ga h 2517 (c + 1) := qv8.trans ev8
  rw [← eq] at bq
  subst qv8
  refine hd_aload pkX19_meets rfl rfl (Int.natCast_nonneg _) ?_
  refine hd_getR (n := 2517) pkX19_meets rfl (g.cell 0 rfl).1 (g.cell 0 rfl).2.1 (g.ref 2 rfl) ?_
  refine hd_iload pkX19_meets rfl rfl ?_
  refine hd_iald (n := 14) pkX19_meets rfl (g.cell 3 rfl) (by omega) (by omega) (fun v9 ev9 rv9 => ?_)
  have qv9 : p = v9 := ep.trans ev9.symm
  subst qv9
  refine hd_isub pkX19_meets rfl (by omega) ?_
  generalize eln : (q - p) = ln
  have lb9 : 0 ≤ ln ∧ ln ≤ 400 := by
    have w := sn.1.2.2.2 c (c + 1) (by omega) (by omega) (by omega)
    rw [← ep, ← eq] at w
    omega
  refine hd_i2l pkX19_meets rfl ?_
  refine hd_lload pkX19_meets rfl rfl ?_
  refine hd_lmul pkX19_meets rfl (by have := mul_b lb9 (show 0 ≤ xo ∧ xo ≤ 1000000000 by omega); omega) ?_
  refine hd_lload pkX19_meets rfl rfl ?_
  refine hd_lload pkX19_meets rfl rfl ?_
  refine hd_ladd pkX19_meets rfl (by omega) ?_
  refine hd_ldiv pkX19_meets rfl (by omega) (by have := meet_b lb9 (x := xo) (y := yo) (by omega) (by omega) xy0; omega) ?_
  refine hd_ladd pkX19_meets rfl (by have := meet_b lb9 (x := xo) (y := yo) (by omega) (by omega) xy0; omega) ?_
  refine hd_lret pkX19_meets rfl ?_
  subst eQ
  refine ⟨rfl, rfl, ?_, rfl⟩
  have w := meet_b lb9 (x := xo) (y := yo) (by omega) (by omega) xy0
  show 0 ≤ (p + (Int.tdiv (ln * xo) (xo + yo))) ∧ (p + (Int.tdiv (ln * xo) (xo + yo))) ≤ 800
  omega
set_option maxRecDepth 20000 in
set_option maxHeartbeats 8000000 in
theorem h_X19_covered {h : MH} {k en cn : Int} (sn : S19 h cn) (g : Str t19 r19 h) : MCal KX19_covered yX19_covered 0 0 [(2, ((2514 : Nat) : Int)), (0, k), (0, en)] h (mRL fun v h' => (-1 ≤ v ∧ v ≤ 800) ∧ h' = h) := by
  refine MCal.ofMW (Or.inl rfl) ⟨cp_X19, rfl⟩ (Nat.le_of_ble_eq_true rfl) ?_
  generalize eQ : (mRL fun v h' => (-1 ≤ v ∧ v ≤ 800) ∧ h' = h : MO → MH → Prop) = Q
  change MW KX19_covered Q 0 0 (pcA pgX19_covered 0) [(0, (2, ((2514 : Nat) : Int))), (1, (0, k)), (2, (0, en))] [] h
  refine hd_locI (i := 1) rfl (fun rk => ?_)
  refine hd_locI (i := 2) rfl (fun ren => ?_)
  have cb := sn.1.2.1
  have cut7 : ∀ (_ : True), MW KX19_covered Q 0 0 (pcA pgX19_covered 7) [(0, (2, ((2514 : Nat) : Int))), (1, (0, k)), (2, (0, en))] [] h := by
    intro _
    refine hd_lpush (z := (-1)) pkX19_covered rfl ?_
    refine hd_lret pkX19_covered rfl ?_
    subst eQ
    refine ⟨rfl, rfl, ?_, rfl⟩
    show -1 ≤ (-1) ∧ (-1) ≤ 800
    omega
  refine hd_iload pkX19_covered rfl rfl ?_
  refine hd_if_lt pkX19_covered rfl (fun c1 => ?_) (fun c1 => ?_)
  · skip
    refine cut7 trivial
  · skip
    refine hd_iload pkX19_covered rfl rfl ?_
    refine hd_if_lt pkX19_covered rfl (fun c2 => ?_) (fun c2 => ?_)
    · skip
      refine cut7 trivial
    · skip
      refine hd_iload pkX19_covered rfl rfl ?_
      refine hd_ipush (z := 1) pkX19_covered rfl ?_
      refine hd_ic_le pkX19_covered rfl (fun c3 => ?_) (fun c3 => ?_)
      · skip
        refine hd_aload pkX19_covered rfl rfl (Int.natCast_nonneg _) ?_
        refine hd_iload pkX19_covered rfl rfl ?_
        refine hd_callV pkX19_covered rfl (q := (KX19_stretch, yX19_stretch, 19, 1, 0)) rfl rfl rfl (As := [(0, k)]) (rest := []) (c := 2514) rfl rfl (Nat.le_of_ble_eq_true rfl) (g.cell 0 rfl).1 (g.cell 0 rfl).2.1 (h_X19_stretch sn g) (hd_bI (fun c hc4 ps => ?_))
        obtain ⟨ps, ehc4⟩ := ps
        replace ehc4 := ehc4.symm
        subst ehc4
        refine hd_istore pkX19_covered rfl rfl ?_
        change MW _ _ _ _ _ [(3, (0, c)), (0, (2, ((2514 : Nat) : Int))), (1, (0, k)), (2, (0, en))] _ _
        refine hd_iload pkX19_covered rfl rfl ?_
        refine hd_ipush (z := (-1)) pkX19_covered rfl ?_
        refine hd_ic_ne pkX19_covered rfl (fun c5 => ?_) (fun c5 => ?_)
        · skip
          refine hd_iload pkX19_covered rfl rfl ?_
          refine hd_if_ne pkX19_covered rfl (fun c6 => ?_) (fun c6 => ?_)
          · skip
            refine hd_iload pkX19_covered rfl rfl ?_
            refine hd_ipush (z := 1) pkX19_covered rfl ?_
            refine hd_iadd pkX19_covered rfl (by omega) ?_
            have cut56 : ∀ (tq : Int), (1 ≤ tq ∧ tq < cn) → MW KX19_covered Q 0 0 (pcA pgX19_covered 56) [(0, (2, ((2514 : Nat) : Int))), (1, (0, k)), (2, (0, en)), (3, (0, c)), (4, (0, tq))] [] h := by
              intro tq t0
              refine hd_aload pkX19_covered rfl rfl (Int.natCast_nonneg _) ?_
              refine hd_getR (n := 2518) pkX19_covered rfl (g.cell 0 rfl).1 (g.cell 0 rfl).2.1 (g.ref 3 rfl) ?_
              refine hd_iload pkX19_covered rfl rfl ?_
              refine hd_lald (n := 14) pkX19_covered rfl (g.cell 4 rfl) (by omega) (by omega) (fun v7 ev7 rv7 => ?_)
              have ra59 : v7 = ga h 2518 (tq) := ev7
              refine hd_lpush (z := 0) pkX19_covered rfl ?_
              refine hd_lc_ge pkX19_covered rfl (fun c8 => ?_) (fun c8 => ?_)
              · skip
                refine hd_aload pkX19_covered rfl rfl (Int.natCast_nonneg _) ?_
                refine hd_getR (n := 2517) pkX19_covered rfl (g.cell 0 rfl).1 (g.cell 0 rfl).2.1 (g.ref 2 rfl) ?_
                refine hd_iload pkX19_covered rfl rfl ?_
                refine hd_iald (n := 14) pkX19_covered rfl (g.cell 3 rfl) (by omega) (by omega) (fun v9 ev9 rv9 => ?_)
                have rp72 : 0 ≤ v9 ∧ v9 ≤ 400 := by rw [ev9]; exact (sn.1.2.2.1 (tq) (by omega) (by omega)).1
                refine hd_i2l pkX19_covered rfl ?_
                refine hd_lret pkX19_covered rfl ?_
                subst eQ
                refine ⟨rfl, rfl, ?_, rfl⟩
                show -1 ≤ v9 ∧ v9 ≤ 800
                omega
              · skip
                refine hd_aload pkX19_covered rfl rfl (Int.natCast_nonneg _) ?_
                refine hd_iload pkX19_covered rfl rfl ?_
                refine hd_ipush (z := 1) pkX19_covered rfl ?_
                refine hd_isub pkX19_covered rfl (by omega) ?_
                refine hd_callV pkX19_covered rfl (q := (KX19_meets, yX19_meets, 19, 1, 0)) rfl rfl rfl (As := [(0, (tq - 1))]) (rest := []) (c := 2514) rfl rfl (Nat.le_of_ble_eq_true rfl) (g.cell 0 rfl).1 (g.cell 0 rfl).2.1 (h_X19_meets sn ⟨by omega, by omega⟩ (Or.inr (by rw [show tq - 1 + 1 = tq by omega]; omega)) g) (hd_bL (fun mv hc10 pm => ?_))
                obtain ⟨pm, ehc10⟩ := pm
                replace ehc10 := ehc10.symm
                subst ehc10
                refine hd_goto pkX19_covered rfl ?_
                refine hd_lret pkX19_covered rfl ?_
                subst eQ
                refine ⟨rfl, rfl, ?_, rfl⟩
                show -1 ≤ mv ∧ mv ≤ 800
                omega
            refine hd_istore pkX19_covered rfl rfl ?_
            change MW _ _ _ _ _ [(4, (0, (c + 1))), (3, (0, c)), (0, (2, ((2514 : Nat) : Int))), (1, (0, k)), (2, (0, en))] _ _
            have lp41 : ∀ (N41 : Nat) (tq : Int), (1 ≤ tq ∧ tq < cn) → cn - tq < (N41 : Int) → MW KX19_covered Q 0 0 (pcA pgX19_covered 41) [(0, (2, ((2514 : Nat) : Int))), (1, (0, k)), (2, (0, en)), (3, (0, c)), (4, (0, tq))] [] h := by
              intro N41
              induction N41 with
              | zero => intro tq t0 hm41; exfalso; omega
              | succ N41 ih41 =>
                intro tq t0 hm41
                refine hd_iload pkX19_covered rfl rfl ?_
                refine hd_ipush (z := 1) pkX19_covered rfl ?_
                refine hd_iadd pkX19_covered rfl (by omega) ?_
                refine hd_aload pkX19_covered rfl rfl (Int.natCast_nonneg _) ?_
                refine hd_getI pkX19_covered rfl (g.cell 0 rfl).1 (g.cell 0 rfl).2.1 (fun v11 ev11 rv11 => ?_)
                have qv11 : cn = v11 := by rw [ev11]; exact sn.1.1.symm
                subst qv11
                refine hd_ic_ge pkX19_covered rfl (fun c12 => ?_) (fun c12 => ?_)
                · skip
                  refine cut56 (tq) ?_
                  · omega
                · skip
                  refine hd_aload pkX19_covered rfl rfl (Int.natCast_nonneg _) ?_
                  refine hd_getR (n := 2518) pkX19_covered rfl (g.cell 0 rfl).1 (g.cell 0 rfl).2.1 (g.ref 3 rfl) ?_
                  refine hd_iload pkX19_covered rfl rfl ?_
                  refine hd_lald (n := 14) pkX19_covered rfl (g.cell 4 rfl) (by omega) (by omega) (fun v13 ev13 rv13 => ?_)
                  refine hd_lpush (z := 0) pkX19_covered rfl ?_
                  refine hd_lc_le pkX19_covered rfl (fun c14 => ?_) (fun c14 => ?_)
                  · skip
                    refine cut56 (tq) ?_
                    · omega
                  · skip
                    refine hd_iinc (z := 1) pkX19_covered rfl rfl (by omega) rfl ?_
                    change MW _ _ _ _ _ [(4, (0, (tq + 1))), (0, (2, ((2514 : Nat) : Int))), (1, (0, k)), (2, (0, en)), (3, (0, c))] _ _
                    refine hd_goto pkX19_covered rfl ?_
                    refine m_sub [(0, (2, ((2514 : Nat) : Int))), (1, (0, k)), (2, (0, en)), (3, (0, c)), (4, (0, (tq + 1)))] (List.forall_mem_cons.mpr ⟨rfl, List.forall_mem_cons.mpr ⟨rfl, List.forall_mem_cons.mpr ⟨rfl, List.forall_mem_cons.mpr ⟨rfl, List.forall_mem_cons.mpr ⟨rfl, fun _ h => absurd h List.not_mem_nil⟩⟩⟩⟩⟩) ?_
                    refine ih41  ((tq + 1)) ?_ ?_
                    · omega
                    · omega
            refine m_sub [(0, (2, ((2514 : Nat) : Int))), (1, (0, k)), (2, (0, en)), (3, (0, c)), (4, (0, (c + 1)))] (List.forall_mem_cons.mpr ⟨rfl, List.forall_mem_cons.mpr ⟨rfl, List.forall_mem_cons.mpr ⟨rfl, List.forall_mem_cons.mpr ⟨rfl, List.forall_mem_cons.mpr ⟨rfl, fun _ h => absurd h List.not_mem_nil⟩⟩⟩⟩⟩) ?_
            refine lp41 ((cn - ((c + 1))) + 1).toNat ((c + 1)) ?_ ?_
            · omega
            · omega
          · skip
            refine hd_aload pkX19_covered rfl rfl (Int.natCast_nonneg _) ?_
            refine hd_getR (n := 2518) pkX19_covered rfl (g.cell 0 rfl).1 (g.cell 0 rfl).2.1 (g.ref 3 rfl) ?_
            refine hd_iload pkX19_covered rfl rfl ?_
            refine hd_lald (n := 14) pkX19_covered rfl (g.cell 4 rfl) (by omega) (by omega) (fun v15 ev15 rv15 => ?_)
            have ra23 : v15 = ga h 2518 (c) := ev15
            refine hd_lpush (z := 0) pkX19_covered rfl ?_
            refine hd_lc_ge pkX19_covered rfl (fun c16 => ?_) (fun c16 => ?_)
            · skip
              refine hd_aload pkX19_covered rfl rfl (Int.natCast_nonneg _) ?_
              refine hd_getR (n := 2517) pkX19_covered rfl (g.cell 0 rfl).1 (g.cell 0 rfl).2.1 (g.ref 2 rfl) ?_
              refine hd_iload pkX19_covered rfl rfl ?_
              refine hd_iald (n := 14) pkX19_covered rfl (g.cell 3 rfl) (by omega) (by omega) (fun v17 ev17 rv17 => ?_)
              have rp34 : 0 ≤ v17 ∧ v17 ≤ 400 := by rw [ev17]; exact (sn.1.2.2.1 (c) (by omega) (by omega)).1
              refine hd_i2l pkX19_covered rfl ?_
              refine hd_lret pkX19_covered rfl ?_
              subst eQ
              refine ⟨rfl, rfl, ?_, rfl⟩
              show -1 ≤ v17 ∧ v17 ≤ 800
              omega
            · skip
              refine hd_aload pkX19_covered rfl rfl (Int.natCast_nonneg _) ?_
              refine hd_iload pkX19_covered rfl rfl ?_
              refine hd_callV pkX19_covered rfl (q := (KX19_meets, yX19_meets, 19, 1, 0)) rfl rfl rfl (As := [(0, c)]) (rest := []) (c := 2514) rfl rfl (Nat.le_of_ble_eq_true rfl) (g.cell 0 rfl).1 (g.cell 0 rfl).2.1 (h_X19_meets sn ⟨by omega, by omega⟩ (Or.inl (by omega)) g) (hd_bL (fun mv hc18 pm => ?_))
              obtain ⟨pm, ehc18⟩ := pm
              replace ehc18 := ehc18.symm
              subst ehc18
              refine hd_goto pkX19_covered rfl ?_
              refine hd_lret pkX19_covered rfl ?_
              subst eQ
              refine ⟨rfl, rfl, ?_, rfl⟩
              show -1 ≤ mv ∧ mv ≤ 800
              omega
        · skip
          refine hd_lpush (z := (-1)) pkX19_covered rfl ?_
          refine hd_lret pkX19_covered rfl ?_
          subst eQ
          refine ⟨rfl, rfl, ?_, rfl⟩
          show -1 ≤ (-1) ∧ (-1) ≤ 800
          omega
      · skip
        refine cut7 trivial
set_option maxRecDepth 20000 in
set_option maxHeartbeats 8000000 in
theorem h_X19_vehicles {h : MH} {k cn : Int} (sn : S19 h cn) (g : Str t19 r19 h) : MCal KX19_vehicles yX19_vehicles 0 0 [(2, ((2514 : Nat) : Int)), (0, k)] h (mRI fun v h' => (-1 ≤ v ∧ v ≤ 15) ∧ h' = h) := by
  refine MCal.ofMW (Or.inl rfl) ⟨cp_X19, rfl⟩ (Nat.le_of_ble_eq_true rfl) ?_
  generalize eQ : (mRI fun v h' => (-1 ≤ v ∧ v ≤ 15) ∧ h' = h : MO → MH → Prop) = Q
  change MW KX19_vehicles Q 0 0 (pcA pgX19_vehicles 0) [(0, (2, ((2514 : Nat) : Int))), (1, (0, k))] [] h
  refine hd_locI (i := 1) rfl (fun rk => ?_)
  have cb := sn.1.2.1
  refine hd_iload pkX19_vehicles rfl rfl ?_
  refine hd_if_ge pkX19_vehicles rfl (fun c1 => ?_) (fun c1 => ?_)
  · skip
    refine hd_aload pkX19_vehicles rfl rfl (Int.natCast_nonneg _) ?_
    refine hd_iload pkX19_vehicles rfl rfl ?_
    refine hd_callV pkX19_vehicles rfl (q := (KX19_stretch, yX19_stretch, 19, 1, 0)) rfl rfl rfl (As := [(0, k)]) (rest := []) (c := 2514) rfl rfl (Nat.le_of_ble_eq_true rfl) (g.cell 0 rfl).1 (g.cell 0 rfl).2.1 (h_X19_stretch sn g) (hd_bI (fun c hc2 ps => ?_))
    obtain ⟨ps, ehc2⟩ := ps
    replace ehc2 := ehc2.symm
    subst ehc2
    refine hd_istore pkX19_vehicles rfl rfl ?_
    change MW _ _ _ _ _ [(2, (0, c)), (0, (2, ((2514 : Nat) : Int))), (1, (0, k))] _ _
    refine hd_iload pkX19_vehicles rfl rfl ?_
    refine hd_ipush (z := (-1)) pkX19_vehicles rfl ?_
    refine hd_ic_ne pkX19_vehicles rfl (fun c3 => ?_) (fun c3 => ?_)
    · skip
      refine hd_aload pkX19_vehicles rfl rfl (Int.natCast_nonneg _) ?_
      refine hd_getR (n := 2518) pkX19_vehicles rfl (g.cell 0 rfl).1 (g.cell 0 rfl).2.1 (g.ref 3 rfl) ?_
      refine hd_iload pkX19_vehicles rfl rfl ?_
      refine hd_lald (n := 14) pkX19_vehicles rfl (g.cell 4 rfl) (by omega) (by omega) (fun v4 ev4 rv4 => ?_)
      refine hd_lpush (z := 0) pkX19_vehicles rfl ?_
      refine hd_lc_ge pkX19_vehicles rfl (fun c5 => ?_) (fun c5 => ?_)
      · skip
        refine hd_iload pkX19_vehicles rfl rfl ?_
        refine hd_iret pkX19_vehicles rfl ?_
        subst eQ
        refine ⟨rfl, rfl, ?_, rfl⟩
        show -1 ≤ (c : Int) ∧ (c : Int) ≤ 15
        omega
      · skip
        refine hd_iload pkX19_vehicles rfl rfl ?_
        refine hd_ipush (z := 1) pkX19_vehicles rfl ?_
        refine hd_iadd pkX19_vehicles rfl (by omega) ?_
        refine hd_goto pkX19_vehicles rfl ?_
        refine hd_iret pkX19_vehicles rfl ?_
        subst eQ
        refine ⟨rfl, rfl, ?_, rfl⟩
        show -1 ≤ ((c + 1) : Int) ∧ ((c + 1) : Int) ≤ 15
        omega
    · skip
      refine hd_ipush (z := (-1)) pkX19_vehicles rfl ?_
      refine hd_goto pkX19_vehicles rfl ?_
      refine hd_iret pkX19_vehicles rfl ?_
      subst eQ
      refine ⟨rfl, rfl, ?_, rfl⟩
      show -1 ≤ ((-1) : Int) ∧ ((-1) : Int) ≤ 15
      omega
  · skip
    refine hd_aload pkX19_vehicles rfl rfl (Int.natCast_nonneg _) ?_
    refine hd_ipush (z := (-1)) pkX19_vehicles rfl ?_
    refine hd_callV pkX19_vehicles rfl (q := (KX19_stretch, yX19_stretch, 19, 1, 0)) rfl rfl rfl (As := [(0, (-1))]) (rest := []) (c := 2514) rfl rfl (Nat.le_of_ble_eq_true rfl) (g.cell 0 rfl).1 (g.cell 0 rfl).2.1 (h_X19_stretch sn g) (hd_bI (fun c hc6 ps => ?_))
    obtain ⟨ps, ehc6⟩ := ps
    replace ehc6 := ehc6.symm
    subst ehc6
    refine hd_iret pkX19_vehicles rfl ?_
    subst eQ
    refine ⟨rfl, rfl, ?_, rfl⟩
    show -1 ≤ (c : Int) ∧ (c : Int) ≤ 15
    omega
set_option maxRecDepth 20000 in
set_option maxHeartbeats 8000000 in
theorem h_X19_place {h : MH} {q9 cn : Int} (sn : S19 h cn) (g : Str t19 r19 h) : MCal KX19_place yX19_place 0 0 [(2, ((2514 : Nat) : Int)), (0, q9)] h (mRL fun v h' => h' = h) := by
  refine MCal.ofMW (Or.inl rfl) ⟨cp_X19, rfl⟩ (Nat.le_of_ble_eq_true rfl) ?_
  generalize eQ : (mRL fun v h' => h' = h : MO → MH → Prop) = Q
  change MW KX19_place Q 0 0 (pcA pgX19_place 0) [(0, (2, ((2514 : Nat) : Int))), (1, (0, q9))] [] h
  refine hd_locI (i := 1) rfl (fun rq9 => ?_)
  refine hd_aload pkX19_place rfl rfl (Int.natCast_nonneg _) ?_
  refine hd_getZ pkX19_place rfl (g.cell 0 rfl).1 (g.cell 0 rfl).2.1 (fun v1 ev1 rv1 => ?_)
  refine hd_if_eq pkX19_place rfl (fun c2 => ?_) (fun c2 => ?_)
  · skip
    refine hd_lpush (z := (-1)) pkX19_place rfl ?_
    refine hd_lret pkX19_place rfl ?_
    subst eQ
    exact ⟨rfl, rfl, rfl⟩
  · skip
    refine hd_iload pkX19_place rfl rfl ?_
    refine hd_if_lt pkX19_place rfl (fun c3 => ?_) (fun c3 => ?_)
    · skip
      refine hd_lpush (z := (-1)) pkX19_place rfl ?_
      refine hd_lret pkX19_place rfl ?_
      subst eQ
      exact ⟨rfl, rfl, rfl⟩
    · skip
      refine hd_iload pkX19_place rfl rfl ?_
      refine hd_ipush (z := 4) pkX19_place rfl ?_
      refine hd_ic_le pkX19_place rfl (fun c4 => ?_) (fun c4 => ?_)
      · skip
        refine hd_iload pkX19_place rfl rfl ?_
        refine hd_if_ne pkX19_place rfl (fun c5 => ?_) (fun c5 => ?_)
        · skip
          refine hd_iload pkX19_place rfl rfl ?_
          refine hd_ipush (z := 1) pkX19_place rfl ?_
          refine hd_ic_ne pkX19_place rfl (fun c6 => ?_) (fun c6 => ?_)
          · skip
            refine hd_iload pkX19_place rfl rfl ?_
            refine hd_ipush (z := 2) pkX19_place rfl ?_
            refine hd_ic_ne pkX19_place rfl (fun c7 => ?_) (fun c7 => ?_)
            · skip
              refine hd_aload pkX19_place rfl rfl (Int.natCast_nonneg _) ?_
              refine hd_getI pkX19_place rfl (g.cell 0 rfl).1 (g.cell 0 rfl).2.1 (fun v8 ev8 rv8 => ?_)
              refine hd_ipush (z := (-1)) pkX19_place rfl ?_
              refine hd_ic_ne pkX19_place rfl (fun c9 => ?_) (fun c9 => ?_)
              · skip
                refine hd_iload pkX19_place rfl rfl ?_
                refine hd_ipush (z := 3) pkX19_place rfl ?_
                refine hd_ic_ne pkX19_place rfl (fun c10 => ?_) (fun c10 => ?_)
                · skip
                  refine hd_aload pkX19_place rfl rfl (Int.natCast_nonneg _) ?_
                  refine hd_getI pkX19_place rfl (g.cell 0 rfl).1 (g.cell 0 rfl).2.1 (fun v11 ev11 rv11 => ?_)
                  refine hd_i2l pkX19_place rfl ?_
                  refine hd_lret pkX19_place rfl ?_
                  subst eQ
                  exact ⟨rfl, rfl, rfl⟩
                · skip
                  refine hd_aload pkX19_place rfl rfl (Int.natCast_nonneg _) ?_
                  refine hd_getI pkX19_place rfl (g.cell 0 rfl).1 (g.cell 0 rfl).2.1 (fun v12 ev12 rv12 => ?_)
                  refine hd_i2l pkX19_place rfl ?_
                  refine hd_goto pkX19_place rfl ?_
                  refine hd_lret pkX19_place rfl ?_
                  subst eQ
                  exact ⟨rfl, rfl, rfl⟩
              · skip
                refine hd_lpush (z := (-1)) pkX19_place rfl ?_
                refine hd_goto pkX19_place rfl ?_
                refine hd_lret pkX19_place rfl ?_
                subst eQ
                exact ⟨rfl, rfl, rfl⟩
            · skip
              refine hd_aload pkX19_place rfl rfl (Int.natCast_nonneg _) ?_
              refine hd_getI pkX19_place rfl (g.cell 0 rfl).1 (g.cell 0 rfl).2.1 (fun v13 ev13 rv13 => ?_)
              refine hd_i2l pkX19_place rfl ?_
              refine hd_goto pkX19_place rfl ?_
              refine hd_lret pkX19_place rfl ?_
              subst eQ
              exact ⟨rfl, rfl, rfl⟩
          · skip
            refine hd_aload pkX19_place rfl rfl (Int.natCast_nonneg _) ?_
            refine hd_getZ pkX19_place rfl (g.cell 0 rfl).1 (g.cell 0 rfl).2.1 (fun v14 ev14 rv14 => ?_)
            refine hd_if_eq pkX19_place rfl (fun c15 => ?_) (fun c15 => ?_)
            · skip
              refine hd_lpush (z := 0) pkX19_place rfl ?_
              refine hd_goto pkX19_place rfl ?_
              refine hd_lret pkX19_place rfl ?_
              subst eQ
              exact ⟨rfl, rfl, rfl⟩
            · skip
              refine hd_lpush (z := 1) pkX19_place rfl ?_
              refine hd_goto pkX19_place rfl ?_
              refine hd_lret pkX19_place rfl ?_
              subst eQ
              exact ⟨rfl, rfl, rfl⟩
        · skip
          refine hd_aload pkX19_place rfl rfl (Int.natCast_nonneg _) ?_
          refine hd_getI pkX19_place rfl (g.cell 0 rfl).1 (g.cell 0 rfl).2.1 (fun v16 ev16 rv16 => ?_)
          refine hd_i2l pkX19_place rfl ?_
          refine hd_goto pkX19_place rfl ?_
          refine hd_lret pkX19_place rfl ?_
          subst eQ
          exact ⟨rfl, rfl, rfl⟩
      · skip
        refine hd_lpush (z := (-1)) pkX19_place rfl ?_
        refine hd_lret pkX19_place rfl ?_
        subst eQ
        exact ⟨rfl, rfl, rfl⟩
set_option maxRecDepth 20000 in
set_option maxHeartbeats 8000000 in
theorem h_X19_tried {h : MH}  (g : Str t19 r19 h) : MCal KX19_tried yX19_tried 0 0 [(2, ((2514 : Nat) : Int))] h (mRL fun v h' => h' = h) := by
  refine MCal.ofMW (Or.inl rfl) ⟨cp_X19, rfl⟩ (Nat.le_of_ble_eq_true rfl) ?_
  generalize eQ : (mRL fun v h' => h' = h : MO → MH → Prop) = Q
  change MW KX19_tried Q 0 0 (pcA pgX19_tried 0) [(0, (2, ((2514 : Nat) : Int)))] [] h
  refine hd_aload pkX19_tried rfl rfl (Int.natCast_nonneg _) ?_
  refine hd_getJ pkX19_tried rfl (g.cell 0 rfl).1 (g.cell 0 rfl).2.1 (fun v1 ev1 rv1 => ?_)
  refine hd_lret pkX19_tried rfl ?_
  subst eQ
  exact ⟨rfl, rfl, rfl⟩
set_option maxRecDepth 20000 in
set_option maxHeartbeats 8000000 in
theorem h_X19_cases {h : MH} {cn : Int} (sn : S19 h cn) (g : Str t19 r19 h) : MCal KX19_cases yX19_cases 0 0 [(2, ((2514 : Nat) : Int))] h (mRI fun v h' => (0 ≤ v ∧ v ≤ 8) ∧ h' = h) := by
  refine MCal.ofMW (Or.inl rfl) ⟨cp_X19, rfl⟩ (Nat.le_of_ble_eq_true rfl) ?_
  generalize eQ : (mRI fun v h' => (0 ≤ v ∧ v ≤ 8) ∧ h' = h : MO → MH → Prop) = Q
  change MW KX19_cases Q 0 0 (pcA pgX19_cases 0) [(0, (2, ((2514 : Nat) : Int)))] [] h
  refine hd_aload pkX19_cases rfl rfl (Int.natCast_nonneg _) ?_
  refine hd_getI pkX19_cases rfl (g.cell 0 rfl).1 (g.cell 0 rfl).2.1 (fun v1 ev1 rv1 => ?_)
  have c8 : 0 ≤ v1 ∧ v1 ≤ 8 := by rw [ev1]; exact sn.2.2.2.1.2.1
  refine hd_iret pkX19_cases rfl ?_
  subst eQ
  exact ⟨rfl, rfl, c8, rfl⟩
set_option maxRecDepth 20000 in
set_option maxHeartbeats 8000000 in
theorem h_X19_sign {h : MH} {k cn : Int} (hk : 0 ≤ k) (sn : S19 h cn) (g : Str t19 r19 h) : MCal KX19_sign yX19_sign 0 0 [(2, ((2514 : Nat) : Int)), (0, k)] h (mRI fun v h' => v = Sg9 h k ∧ h' = h) := by
  refine MCal.ofMW (Or.inl rfl) ⟨cp_X19, rfl⟩ (Nat.le_of_ble_eq_true rfl) ?_
  generalize eQ : (mRI fun v h' => v = Sg9 h k ∧ h' = h : MO → MH → Prop) = Q
  change MW KX19_sign Q 0 0 (pcA pgX19_sign 0) [(0, (2, ((2514 : Nat) : Int))), (1, (0, k))] [] h
  refine hd_locI (i := 1) rfl (fun rk => ?_)
  refine hd_iload pkX19_sign rfl rfl ?_
  refine hd_aload pkX19_sign rfl rfl (Int.natCast_nonneg _) ?_
  refine hd_getI pkX19_sign rfl (g.cell 0 rfl).1 (g.cell 0 rfl).2.1 (fun v1 ev1 rv1 => ?_)
  obtain ⟨z3, qv1⟩ : ∃ x : Int, x = v1 := ⟨_, rfl⟩
  have ez : ga h 2514 24 = z3 := by rw [qv1, ev1]; rfl
  have z1 : 0 ≤ z3 ∧ z3 ≤ 100 := by rw [← ez]; exact sn.2.2.2.1.1
  subst qv1
  refine hd_ic_ge pkX19_sign rfl (fun c2 => ?_) (fun c2 => ?_)
  · skip
    refine hd_ipush (z := 0) pkX19_sign rfl ?_
    refine hd_iret pkX19_sign rfl ?_
    subst eQ
    refine ⟨rfl, rfl, ?_, rfl⟩
    show (0 : Int) = Sg9 h k
    unfold Sg9
    rw [if_neg (by omega)]
  · skip
    refine hd_aload pkX19_sign rfl rfl (Int.natCast_nonneg _) ?_
    refine hd_getR (n := 2527) pkX19_sign rfl (g.cell 0 rfl).1 (g.cell 0 rfl).2.1 (g.ref 12 rfl) ?_
    refine hd_iload pkX19_sign rfl rfl ?_
    refine hd_iald (n := 100) pkX19_sign rfl (g.cell 13 rfl) (by omega) (by omega) (fun v3 ev3 rv3 => ?_)
    have tv9 : v3 = ga h 2527 k := ev3
    refine hd_goto pkX19_sign rfl ?_
    refine hd_iret pkX19_sign rfl ?_
    subst eQ
    refine ⟨rfl, rfl, ?_, rfl⟩
    show (v3 : Int) = Sg9 h k
    unfold Sg9
    rw [if_pos (by omega)]
    exact tv9
