set_option maxRecDepth 20000 in
set_option maxHeartbeats 8000000 in
theorem h_X14_coefficient {h : MH} {k what x un : Int} (hk : 0 ≤ k) (hk2 : k < 3) (hl : 1 ≤ ga h 2498 k ∧ ga h 2498 k ≤ 12) (he : 1 ≤ ga h 2499 k ∧ ga h 2499 k ≤ 12) (hx : 0 ≤ x ∧ x ≤ 4) (hw : 0 ≤ what ∧ what ≤ 3) (hu : 0 ≤ un ∧ un ≤ 3) (g : Str t14 r14 h) : MCal KX14_coefficient yX14_coefficient 0 0 [(2, ((2495 : Nat) : Int)), (0, k), (0, what), (0, x), (0, un)] h (mRV fun h' => Ch 70 2496 2497 [677, 678, 672, 674, 675, 676] h h' ∧ Hr 70 2496 2497 h' 677 678 (Rat.divInt (cfU what x un (ga h 2498 k)) (cfD what un (ga h 2499 k)))) := by
  refine MCal.ofMW (Or.inl rfl) ⟨cp_X14, rfl⟩ (Nat.le_of_ble_eq_true rfl) ?_
  generalize eQ : (mRV fun h' => Ch 70 2496 2497 [677, 678, 672, 674, 675, 676] h h' ∧ Hr 70 2496 2497 h' 677 678 (Rat.divInt (cfU what x un (ga h 2498 k)) (cfD what un (ga h 2499 k))) : MO → MH → Prop) = Q
  change MW KX14_coefficient Q 0 0 (pcA pgX14_coefficient 0) [(0, (2, ((2495 : Nat) : Int))), (1, (0, k)), (2, (0, what)), (3, (0, x)), (4, (0, un))] [] h
  refine hd_locI (i := 1) rfl (fun rk => ?_)
  refine hd_locI (i := 2) rfl (fun rwhat => ?_)
  refine hd_locI (i := 3) rfl (fun rx => ?_)
  refine hd_locI (i := 4) rfl (fun run => ?_)
  refine hd_aload pkX14_coefficient rfl rfl (Int.natCast_nonneg _) ?_
  refine hd_getR (n := 2498) pkX14_coefficient rfl (g.cell 0 rfl).1 (g.cell 0 rfl).2.1 (g.ref 2 rfl) ?_
  refine hd_iload pkX14_coefficient rfl rfl ?_
  refine hd_iald (n := 3) pkX14_coefficient rfl (g.cell 3 rfl) (by omega) (by omega) (fun v1 ev1 rv1 => ?_)
  have hv1 : 1 ≤ v1 ∧ v1 ≤ 12 := by rw [ev1]; exact hl
  refine hd_i2l pkX14_coefficient rfl ?_
  refine hd_lstore pkX14_coefficient rfl rfl ?_
  change MW _ _ _ _ _ [(5, (1, v1)), (0, (2, ((2495 : Nat) : Int))), (1, (0, k)), (2, (0, what)), (3, (0, x)), (4, (0, un))] _ _
  refine hd_aload pkX14_coefficient rfl rfl (Int.natCast_nonneg _) ?_
  refine hd_getR (n := 2499) pkX14_coefficient rfl (g.cell 0 rfl).1 (g.cell 0 rfl).2.1 (g.ref 3 rfl) ?_
  refine hd_iload pkX14_coefficient rfl rfl ?_
  refine hd_iald (n := 3) pkX14_coefficient rfl (g.cell 4 rfl) (by omega) (by omega) (fun v2 ev2 rv2 => ?_)
  have hv2 : 1 ≤ v2 ∧ v2 ≤ 12 := by rw [ev2]; exact he
  refine hd_i2l pkX14_coefficient rfl ?_
  refine hd_lstore pkX14_coefficient rfl rfl ?_
  change MW _ _ _ _ _ [(7, (1, v2)), (5, (1, v1)), (0, (2, ((2495 : Nat) : Int))), (1, (0, k)), (2, (0, what)), (3, (0, x)), (4, (0, un))] _ _
  have X0 : 0 ≤ x ∧ x ≤ 4 := by omega
  have L0 : 0 ≤ v1 ∧ v1 ≤ 12 := by omega
  have m1 := mul_b X0 L0
  have m2 := mul_b X0 X0
  have m3 := mul_b m2 L0
  have m4 := mul_b m3 L0
  have m5 := mul_b m2 X0
  have m6 := mul_b m5 L0
  have m7 := mul_b m6 L0
  have m8 := mul_b m7 L0
  refine hd_iload pkX14_coefficient rfl rfl ?_
  refine hd_i2l pkX14_coefficient rfl ?_
  refine hd_lstore pkX14_coefficient rfl rfl ?_
  change MW _ _ _ _ _ [(9, (1, x)), (7, (1, v2)), (5, (1, v1)), (0, (2, ((2495 : Nat) : Int))), (1, (0, k)), (2, (0, what)), (3, (0, x)), (4, (0, un))] _ _
  have cut99 : ∀ (up dn : Int), (up = cfU what x un v1) → (-110592 ≤ up ∧ up ≤ 110592) → (dn = cfD what un v2) → (0 < dn ∧ dn ≤ 4608) → MW KX14_coefficient Q 0 0 (pcA pgX14_coefficient 99) [(0, (2, ((2495 : Nat) : Int))), (1, (0, k)), (2, (0, what)), (3, (0, x)), (4, (0, un)), (5, (1, v1)), (7, (1, v2)), (9, (1, x)), (11, (1, up)), (13, (1, dn))] [] h := by
    intro up dn uv ub dv db
    refine hd_aload pkX14_coefficient rfl rfl (Int.natCast_nonneg _) ?_
    refine hd_ipush (z := 677) pkX14_coefficient rfl ?_
    refine hd_ipush (z := 678) pkX14_coefficient rfl ?_
    refine hd_lload pkX14_coefficient rfl rfl ?_
    refine hd_lload pkX14_coefficient rfl rfl ?_
    refine hd_callV pkX14_coefficient rfl (q := (KX14_fraction, yX14_fraction, 14, 4, 0)) rfl rfl rfl (As := [(0, 677), (0, 678), (1, up), (1, dn)]) (rest := []) (c := 2495) rfl rfl (Nat.le_of_ble_eq_true rfl) (g.cell 0 rfl).1 (g.cell 0 rfl).2.1 (h_X14_fraction (u := 677) (d := 678) (p := up) (q := dn) (by decide) (by decide) (by decide) (by decide) (by decide) (by decide) (by decide) (by omega) (by omega) g) (hd_bV (fun hc3 pf => ?_))
    refine hd_vret pkX14_coefficient rfl ?_
    subst eQ
    refine ⟨rfl, pf.1, ?_⟩
    have q := pf.2
    rw [uv, dv, ev1, ev2] at q
    exact q
  refine hd_lpush (z := 0) pkX14_coefficient rfl ?_
  refine hd_lstore pkX14_coefficient rfl rfl ?_
  change MW _ _ _ _ _ [(11, (1, 0)), (9, (1, x)), (7, (1, v2)), (5, (1, v1)), (0, (2, ((2495 : Nat) : Int))), (1, (0, k)), (2, (0, what)), (3, (0, x)), (4, (0, un))] _ _
  refine hd_lpush (z := 1) pkX14_coefficient rfl ?_
  refine hd_lstore pkX14_coefficient rfl rfl ?_
  change MW _ _ _ _ _ [(13, (1, 1)), (11, (1, 0)), (9, (1, x)), (7, (1, v2)), (5, (1, v1)), (0, (2, ((2495 : Nat) : Int))), (1, (0, k)), (2, (0, what)), (3, (0, x)), (4, (0, un))] _ _
  refine hd_iload pkX14_coefficient rfl rfl ?_
  refine hd_iload pkX14_coefficient rfl rfl ?_
  refine hd_ic_ne pkX14_coefficient rfl (fun c4 => ?_) (fun c4 => ?_)
  · skip
    refine hd_iload pkX14_coefficient rfl rfl ?_
    refine hd_iload pkX14_coefficient rfl rfl ?_
    refine hd_ic_ge pkX14_coefficient rfl (fun c5 => ?_) (fun c5 => ?_)
    · skip
      refine m_sub [(0, (2, ((2495 : Nat) : Int))), (1, (0, k)), (2, (0, what)), (3, (0, x)), (4, (0, un)), (5, (1, v1)), (7, (1, v2)), (9, (1, x)), (11, (1, 0)), (13, (1, 1))] (List.forall_mem_cons.mpr ⟨rfl, List.forall_mem_cons.mpr ⟨rfl, List.forall_mem_cons.mpr ⟨rfl, List.forall_mem_cons.mpr ⟨rfl, List.forall_mem_cons.mpr ⟨rfl, List.forall_mem_cons.mpr ⟨rfl, List.forall_mem_cons.mpr ⟨rfl, List.forall_mem_cons.mpr ⟨rfl, List.forall_mem_cons.mpr ⟨rfl, List.forall_mem_cons.mpr ⟨rfl, fun _ h => absurd h List.not_mem_nil⟩⟩⟩⟩⟩⟩⟩⟩⟩⟩) ?_
      refine cut99 (0) (1) ?_ ?_ ?_ ?_
      · unfold cfU
        repeat split
        all_goals omega
      · omega
      · unfold cfD
        repeat split
        all_goals first
          | omega
          | rw [d1v]
      · first
          | omega
          | (have := mul_pp d1b hv2; omega)
    · skip
      refine hd_iload pkX14_coefficient rfl rfl ?_
      refine hd_iload pkX14_coefficient rfl rfl ?_
      refine hd_isub pkX14_coefficient rfl (by omega) ?_
      refine hd_istore pkX14_coefficient rfl rfl ?_
      change MW _ _ _ _ _ [(15, (0, (un - what))), (13, (1, 1)), (11, (1, 0)), (9, (1, x)), (7, (1, v2)), (5, (1, v1)), (0, (2, ((2495 : Nat) : Int))), (1, (0, k)), (2, (0, what)), (3, (0, x)), (4, (0, un))] _ _
      have cut41 : ∀ (bd : Int), ((bd = 1 ∧ what < 2 ∧ 1 < un) ∨ (bd = 0 ∧ ¬(what < 2 ∧ 1 < un))) → MW KX14_coefficient Q 0 0 (pcA pgX14_coefficient 41) [(0, (2, ((2495 : Nat) : Int))), (1, (0, k)), (2, (0, what)), (3, (0, x)), (4, (0, un)), (5, (1, v1)), (7, (1, v2)), (9, (1, x)), (11, (1, 0)), (13, (1, 1)), (15, (0, (un - what)))] [(0, bd)] h := by
        intro bd bdv
        refine hd_istore pkX14_coefficient rfl rfl ?_
        change MW _ _ _ _ _ [(16, (0, bd)), (0, (2, ((2495 : Nat) : Int))), (1, (0, k)), (2, (0, what)), (3, (0, x)), (4, (0, un)), (5, (1, v1)), (7, (1, v2)), (9, (1, x)), (11, (1, 0)), (13, (1, 1)), (15, (0, (un - what)))] _ _
        have cut71 : ∀ (up1 : Int), (up1 = cfN (un - what) x v1) → (0 ≤ up1 ∧ up1 ≤ 110592) → MW KX14_coefficient Q 0 0 (pcA pgX14_coefficient 71) [(0, (2, ((2495 : Nat) : Int))), (1, (0, k)), (2, (0, what)), (3, (0, x)), (4, (0, un)), (5, (1, v1)), (7, (1, v2)), (9, (1, x)), (11, (1, 0)), (13, (1, 1)), (15, (0, (un - what))), (16, (0, bd))] [(1, up1)] h := by
          intro up1 u1v u1b
          refine hd_lstore pkX14_coefficient rfl rfl ?_
          change MW _ _ _ _ _ [(11, (1, up1)), (0, (2, ((2495 : Nat) : Int))), (1, (0, k)), (2, (0, what)), (3, (0, x)), (4, (0, un)), (5, (1, v1)), (7, (1, v2)), (9, (1, x)), (13, (1, 1)), (15, (0, (un - what))), (16, (0, bd))] _ _
          have cut83 : ∀ (dn1 : Int), (dn1 = cfM (un - what)) → (0 < dn1 ∧ dn1 ≤ 384) → MW KX14_coefficient Q 0 0 (pcA pgX14_coefficient 83) [(0, (2, ((2495 : Nat) : Int))), (1, (0, k)), (2, (0, what)), (3, (0, x)), (4, (0, un)), (5, (1, v1)), (7, (1, v2)), (9, (1, x)), (11, (1, up1)), (13, (1, 1)), (15, (0, (un - what))), (16, (0, bd))] [(1, dn1)] h := by
            intro dn1 d1v d1b
            refine hd_lstore pkX14_coefficient rfl rfl ?_
            change MW _ _ _ _ _ [(13, (1, dn1)), (0, (2, ((2495 : Nat) : Int))), (1, (0, k)), (2, (0, what)), (3, (0, x)), (4, (0, un)), (5, (1, v1)), (7, (1, v2)), (9, (1, x)), (11, (1, up1)), (15, (0, (un - what))), (16, (0, bd))] _ _
            refine hd_iload pkX14_coefficient rfl rfl ?_
            refine hd_if_eq pkX14_coefficient rfl (fun c6 => ?_) (fun c6 => ?_)
            · skip
              refine hd_lload pkX14_coefficient rfl rfl ?_
              refine hd_lstore pkX14_coefficient rfl rfl ?_
              change MW _ _ _ _ _ [(11, (1, up1)), (13, (1, dn1)), (0, (2, ((2495 : Nat) : Int))), (1, (0, k)), (2, (0, what)), (3, (0, x)), (4, (0, un)), (5, (1, v1)), (7, (1, v2)), (9, (1, x)), (15, (0, (un - what))), (16, (0, bd))] _ _
              refine hd_iload pkX14_coefficient rfl rfl ?_
              refine hd_if_eq pkX14_coefficient rfl (fun c7 => ?_) (fun c7 => ?_)
              · skip
                refine hd_lload pkX14_coefficient rfl rfl ?_
                refine hd_lstore pkX14_coefficient rfl rfl ?_
                change MW _ _ _ _ _ [(13, (1, dn1)), (11, (1, up1)), (0, (2, ((2495 : Nat) : Int))), (1, (0, k)), (2, (0, what)), (3, (0, x)), (4, (0, un)), (5, (1, v1)), (7, (1, v2)), (9, (1, x)), (15, (0, (un - what))), (16, (0, bd))] _ _
                refine m_sub [(0, (2, ((2495 : Nat) : Int))), (1, (0, k)), (2, (0, what)), (3, (0, x)), (4, (0, un)), (5, (1, v1)), (7, (1, v2)), (9, (1, x)), (11, (1, up1)), (13, (1, dn1))] (List.forall_mem_cons.mpr ⟨rfl, List.forall_mem_cons.mpr ⟨rfl, List.forall_mem_cons.mpr ⟨rfl, List.forall_mem_cons.mpr ⟨rfl, List.forall_mem_cons.mpr ⟨rfl, List.forall_mem_cons.mpr ⟨rfl, List.forall_mem_cons.mpr ⟨rfl, List.forall_mem_cons.mpr ⟨rfl, List.forall_mem_cons.mpr ⟨rfl, List.forall_mem_cons.mpr ⟨rfl, fun _ h => absurd h List.not_mem_nil⟩⟩⟩⟩⟩⟩⟩⟩⟩⟩) ?_
                refine cut99 (up1) (dn1) ?_ ?_ ?_ ?_
                · unfold cfU
                  repeat split
                  all_goals omega
                · omega
                · unfold cfD
                  repeat split
                  all_goals first
                    | omega
                    | rw [d1v]
                · first
                    | omega
                    | (have := mul_pp d1b hv2; omega)
              · skip
                refine hd_lload pkX14_coefficient rfl rfl ?_
                refine hd_lload pkX14_coefficient rfl rfl ?_
                refine hd_lmul pkX14_coefficient rfl (by have := mul_pp d1b hv2; omega) ?_
                refine hd_goto pkX14_coefficient rfl ?_
                refine hd_lstore pkX14_coefficient rfl rfl ?_
                change MW _ _ _ _ _ [(13, (1, (dn1 * v2))), (11, (1, up1)), (0, (2, ((2495 : Nat) : Int))), (1, (0, k)), (2, (0, what)), (3, (0, x)), (4, (0, un)), (5, (1, v1)), (7, (1, v2)), (9, (1, x)), (15, (0, (un - what))), (16, (0, bd))] _ _
                refine m_sub [(0, (2, ((2495 : Nat) : Int))), (1, (0, k)), (2, (0, what)), (3, (0, x)), (4, (0, un)), (5, (1, v1)), (7, (1, v2)), (9, (1, x)), (11, (1, up1)), (13, (1, (dn1 * v2)))] (List.forall_mem_cons.mpr ⟨rfl, List.forall_mem_cons.mpr ⟨rfl, List.forall_mem_cons.mpr ⟨rfl, List.forall_mem_cons.mpr ⟨rfl, List.forall_mem_cons.mpr ⟨rfl, List.forall_mem_cons.mpr ⟨rfl, List.forall_mem_cons.mpr ⟨rfl, List.forall_mem_cons.mpr ⟨rfl, List.forall_mem_cons.mpr ⟨rfl, List.forall_mem_cons.mpr ⟨rfl, fun _ h => absurd h List.not_mem_nil⟩⟩⟩⟩⟩⟩⟩⟩⟩⟩) ?_
                refine cut99 (up1) ((dn1 * v2)) ?_ ?_ ?_ ?_
                · unfold cfU
                  repeat split
                  all_goals omega
                · omega
                · unfold cfD
                  repeat split
                  all_goals first
                    | omega
                    | rw [d1v]
                · first
                    | omega
                    | (have := mul_pp d1b hv2; omega)
            · skip
              refine hd_lload pkX14_coefficient rfl rfl ?_
              refine hd_lneg pkX14_coefficient rfl (by omega) ?_
              refine hd_goto pkX14_coefficient rfl ?_
              refine hd_lstore pkX14_coefficient rfl rfl ?_
              change MW _ _ _ _ _ [(11, (1, (-up1))), (13, (1, dn1)), (0, (2, ((2495 : Nat) : Int))), (1, (0, k)), (2, (0, what)), (3, (0, x)), (4, (0, un)), (5, (1, v1)), (7, (1, v2)), (9, (1, x)), (15, (0, (un - what))), (16, (0, bd))] _ _
              refine hd_iload pkX14_coefficient rfl rfl ?_
              refine hd_if_eq pkX14_coefficient rfl (fun c8 => ?_) (fun c8 => ?_)
              · skip
                refine hd_lload pkX14_coefficient rfl rfl ?_
                refine hd_lstore pkX14_coefficient rfl rfl ?_
                change MW _ _ _ _ _ [(13, (1, dn1)), (11, (1, (-up1))), (0, (2, ((2495 : Nat) : Int))), (1, (0, k)), (2, (0, what)), (3, (0, x)), (4, (0, un)), (5, (1, v1)), (7, (1, v2)), (9, (1, x)), (15, (0, (un - what))), (16, (0, bd))] _ _
                refine m_sub [(0, (2, ((2495 : Nat) : Int))), (1, (0, k)), (2, (0, what)), (3, (0, x)), (4, (0, un)), (5, (1, v1)), (7, (1, v2)), (9, (1, x)), (11, (1, (-up1))), (13, (1, dn1))] (List.forall_mem_cons.mpr ⟨rfl, List.forall_mem_cons.mpr ⟨rfl, List.forall_mem_cons.mpr ⟨rfl, List.forall_mem_cons.mpr ⟨rfl, List.forall_mem_cons.mpr ⟨rfl, List.forall_mem_cons.mpr ⟨rfl, List.forall_mem_cons.mpr ⟨rfl, List.forall_mem_cons.mpr ⟨rfl, List.forall_mem_cons.mpr ⟨rfl, List.forall_mem_cons.mpr ⟨rfl, fun _ h => absurd h List.not_mem_nil⟩⟩⟩⟩⟩⟩⟩⟩⟩⟩) ?_
                refine cut99 ((-up1)) (dn1) ?_ ?_ ?_ ?_
                · unfold cfU
                  repeat split
                  all_goals omega
                · omega
                · unfold cfD
                  repeat split
                  all_goals first
                    | omega
                    | rw [d1v]
                · first
                    | omega
                    | (have := mul_pp d1b hv2; omega)
              · skip
                refine hd_lload pkX14_coefficient rfl rfl ?_
                refine hd_lload pkX14_coefficient rfl rfl ?_
                refine hd_lmul pkX14_coefficient rfl (by have := mul_pp d1b hv2; omega) ?_
                refine hd_goto pkX14_coefficient rfl ?_
                refine hd_lstore pkX14_coefficient rfl rfl ?_
                change MW _ _ _ _ _ [(13, (1, (dn1 * v2))), (11, (1, (-up1))), (0, (2, ((2495 : Nat) : Int))), (1, (0, k)), (2, (0, what)), (3, (0, x)), (4, (0, un)), (5, (1, v1)), (7, (1, v2)), (9, (1, x)), (15, (0, (un - what))), (16, (0, bd))] _ _
                refine m_sub [(0, (2, ((2495 : Nat) : Int))), (1, (0, k)), (2, (0, what)), (3, (0, x)), (4, (0, un)), (5, (1, v1)), (7, (1, v2)), (9, (1, x)), (11, (1, (-up1))), (13, (1, (dn1 * v2)))] (List.forall_mem_cons.mpr ⟨rfl, List.forall_mem_cons.mpr ⟨rfl, List.forall_mem_cons.mpr ⟨rfl, List.forall_mem_cons.mpr ⟨rfl, List.forall_mem_cons.mpr ⟨rfl, List.forall_mem_cons.mpr ⟨rfl, List.forall_mem_cons.mpr ⟨rfl, List.forall_mem_cons.mpr ⟨rfl, List.forall_mem_cons.mpr ⟨rfl, List.forall_mem_cons.mpr ⟨rfl, fun _ h => absurd h List.not_mem_nil⟩⟩⟩⟩⟩⟩⟩⟩⟩⟩) ?_
                refine cut99 ((-up1)) ((dn1 * v2)) ?_ ?_ ?_ ?_
                · unfold cfU
                  repeat split
                  all_goals omega
                · omega
                · unfold cfD
                  repeat split
                  all_goals first
                    | omega
                    | rw [d1v]
                · first
                    | omega
                    | (have := mul_pp d1b hv2; omega)
          refine hd_iload pkX14_coefficient rfl rfl ?_
          refine hd_ipush (z := 1) pkX14_coefficient rfl ?_
          refine hd_ic_ne pkX14_coefficient rfl (fun c9 => ?_) (fun c9 => ?_)
          · skip
            refine hd_iload pkX14_coefficient rfl rfl ?_
            refine hd_ipush (z := 2) pkX14_coefficient rfl ?_
            refine hd_ic_ne pkX14_coefficient rfl (fun c10 => ?_) (fun c10 => ?_)
            · skip
              refine hd_lpush (z := 384) pkX14_coefficient rfl ?_
              refine m_sub [(0, (2, ((2495 : Nat) : Int))), (1, (0, k)), (2, (0, what)), (3, (0, x)), (4, (0, un)), (5, (1, v1)), (7, (1, v2)), (9, (1, x)), (11, (1, up1)), (13, (1, 1)), (15, (0, (un - what))), (16, (0, bd))] (List.forall_mem_cons.mpr ⟨rfl, List.forall_mem_cons.mpr ⟨rfl, List.forall_mem_cons.mpr ⟨rfl, List.forall_mem_cons.mpr ⟨rfl, List.forall_mem_cons.mpr ⟨rfl, List.forall_mem_cons.mpr ⟨rfl, List.forall_mem_cons.mpr ⟨rfl, List.forall_mem_cons.mpr ⟨rfl, List.forall_mem_cons.mpr ⟨rfl, List.forall_mem_cons.mpr ⟨rfl, List.forall_mem_cons.mpr ⟨rfl, List.forall_mem_cons.mpr ⟨rfl, fun _ h => absurd h List.not_mem_nil⟩⟩⟩⟩⟩⟩⟩⟩⟩⟩⟩⟩) ?_
              refine cut83 (384) ?_ ?_
              · unfold cfM
                repeat split
                all_goals omega
              · omega
            · skip
              refine hd_lpush (z := 32) pkX14_coefficient rfl ?_
              refine hd_goto pkX14_coefficient rfl ?_
              refine m_sub [(0, (2, ((2495 : Nat) : Int))), (1, (0, k)), (2, (0, what)), (3, (0, x)), (4, (0, un)), (5, (1, v1)), (7, (1, v2)), (9, (1, x)), (11, (1, up1)), (13, (1, 1)), (15, (0, (un - what))), (16, (0, bd))] (List.forall_mem_cons.mpr ⟨rfl, List.forall_mem_cons.mpr ⟨rfl, List.forall_mem_cons.mpr ⟨rfl, List.forall_mem_cons.mpr ⟨rfl, List.forall_mem_cons.mpr ⟨rfl, List.forall_mem_cons.mpr ⟨rfl, List.forall_mem_cons.mpr ⟨rfl, List.forall_mem_cons.mpr ⟨rfl, List.forall_mem_cons.mpr ⟨rfl, List.forall_mem_cons.mpr ⟨rfl, List.forall_mem_cons.mpr ⟨rfl, List.forall_mem_cons.mpr ⟨rfl, fun _ h => absurd h List.not_mem_nil⟩⟩⟩⟩⟩⟩⟩⟩⟩⟩⟩⟩) ?_
              refine cut83 (32) ?_ ?_
              · unfold cfM
                repeat split
                all_goals omega
              · omega
          · skip
            refine hd_lpush (z := 4) pkX14_coefficient rfl ?_
            refine hd_goto pkX14_coefficient rfl ?_
            refine m_sub [(0, (2, ((2495 : Nat) : Int))), (1, (0, k)), (2, (0, what)), (3, (0, x)), (4, (0, un)), (5, (1, v1)), (7, (1, v2)), (9, (1, x)), (11, (1, up1)), (13, (1, 1)), (15, (0, (un - what))), (16, (0, bd))] (List.forall_mem_cons.mpr ⟨rfl, List.forall_mem_cons.mpr ⟨rfl, List.forall_mem_cons.mpr ⟨rfl, List.forall_mem_cons.mpr ⟨rfl, List.forall_mem_cons.mpr ⟨rfl, List.forall_mem_cons.mpr ⟨rfl, List.forall_mem_cons.mpr ⟨rfl, List.forall_mem_cons.mpr ⟨rfl, List.forall_mem_cons.mpr ⟨rfl, List.forall_mem_cons.mpr ⟨rfl, List.forall_mem_cons.mpr ⟨rfl, List.forall_mem_cons.mpr ⟨rfl, fun _ h => absurd h List.not_mem_nil⟩⟩⟩⟩⟩⟩⟩⟩⟩⟩⟩⟩) ?_
            refine cut83 (4) ?_ ?_
            · unfold cfM
              repeat split
              all_goals omega
            · omega
        refine hd_iload pkX14_coefficient rfl rfl ?_
        refine hd_ipush (z := 1) pkX14_coefficient rfl ?_
        refine hd_ic_ne pkX14_coefficient rfl (fun c11 => ?_) (fun c11 => ?_)
        · skip
          refine hd_iload pkX14_coefficient rfl rfl ?_
          refine hd_ipush (z := 2) pkX14_coefficient rfl ?_
          refine hd_ic_ne pkX14_coefficient rfl (fun c12 => ?_) (fun c12 => ?_)
          · skip
            refine hd_lload pkX14_coefficient rfl rfl ?_
            refine hd_lload pkX14_coefficient rfl rfl ?_
            refine hd_lmul pkX14_coefficient rfl (by omega) ?_
            refine hd_lload pkX14_coefficient rfl rfl ?_
            refine hd_lmul pkX14_coefficient rfl (by omega) ?_
            refine hd_lload pkX14_coefficient rfl rfl ?_
            refine hd_lmul pkX14_coefficient rfl (by omega) ?_
            refine hd_lload pkX14_coefficient rfl rfl ?_
            refine hd_lmul pkX14_coefficient rfl (by omega) ?_
            refine hd_lload pkX14_coefficient rfl rfl ?_
            refine hd_lmul pkX14_coefficient rfl (by omega) ?_
            refine m_sub [(0, (2, ((2495 : Nat) : Int))), (1, (0, k)), (2, (0, what)), (3, (0, x)), (4, (0, un)), (5, (1, v1)), (7, (1, v2)), (9, (1, x)), (11, (1, 0)), (13, (1, 1)), (15, (0, (un - what))), (16, (0, bd))] (List.forall_mem_cons.mpr ⟨rfl, List.forall_mem_cons.mpr ⟨rfl, List.forall_mem_cons.mpr ⟨rfl, List.forall_mem_cons.mpr ⟨rfl, List.forall_mem_cons.mpr ⟨rfl, List.forall_mem_cons.mpr ⟨rfl, List.forall_mem_cons.mpr ⟨rfl, List.forall_mem_cons.mpr ⟨rfl, List.forall_mem_cons.mpr ⟨rfl, List.forall_mem_cons.mpr ⟨rfl, List.forall_mem_cons.mpr ⟨rfl, List.forall_mem_cons.mpr ⟨rfl, fun _ h => absurd h List.not_mem_nil⟩⟩⟩⟩⟩⟩⟩⟩⟩⟩⟩⟩) ?_
            refine cut71 ((((((x * x) * x) * v1) * v1) * v1)) ?_ ?_
            · unfold cfN
              repeat split
              all_goals first
                | rfl
                | omega
            · omega
          · skip
            refine hd_lload pkX14_coefficient rfl rfl ?_
            refine hd_lload pkX14_coefficient rfl rfl ?_
            refine hd_lmul pkX14_coefficient rfl (by omega) ?_
            refine hd_lload pkX14_coefficient rfl rfl ?_
            refine hd_lmul pkX14_coefficient rfl (by omega) ?_
            refine hd_lload pkX14_coefficient rfl rfl ?_
            refine hd_lmul pkX14_coefficient rfl (by omega) ?_
            refine hd_goto pkX14_coefficient rfl ?_
            refine m_sub [(0, (2, ((2495 : Nat) : Int))), (1, (0, k)), (2, (0, what)), (3, (0, x)), (4, (0, un)), (5, (1, v1)), (7, (1, v2)), (9, (1, x)), (11, (1, 0)), (13, (1, 1)), (15, (0, (un - what))), (16, (0, bd))] (List.forall_mem_cons.mpr ⟨rfl, List.forall_mem_cons.mpr ⟨rfl, List.forall_mem_cons.mpr ⟨rfl, List.forall_mem_cons.mpr ⟨rfl, List.forall_mem_cons.mpr ⟨rfl, List.forall_mem_cons.mpr ⟨rfl, List.forall_mem_cons.mpr ⟨rfl, List.forall_mem_cons.mpr ⟨rfl, List.forall_mem_cons.mpr ⟨rfl, List.forall_mem_cons.mpr ⟨rfl, List.forall_mem_cons.mpr ⟨rfl, List.forall_mem_cons.mpr ⟨rfl, fun _ h => absurd h List.not_mem_nil⟩⟩⟩⟩⟩⟩⟩⟩⟩⟩⟩⟩) ?_
            refine cut71 ((((x * x) * v1) * v1)) ?_ ?_
            · unfold cfN
              repeat split
              all_goals first
                | rfl
                | omega
            · omega
        · skip
          refine hd_lload pkX14_coefficient rfl rfl ?_
          refine hd_lload pkX14_coefficient rfl rfl ?_
          refine hd_lmul pkX14_coefficient rfl (by omega) ?_
          refine hd_goto pkX14_coefficient rfl ?_
          refine m_sub [(0, (2, ((2495 : Nat) : Int))), (1, (0, k)), (2, (0, what)), (3, (0, x)), (4, (0, un)), (5, (1, v1)), (7, (1, v2)), (9, (1, x)), (11, (1, 0)), (13, (1, 1)), (15, (0, (un - what))), (16, (0, bd))] (List.forall_mem_cons.mpr ⟨rfl, List.forall_mem_cons.mpr ⟨rfl, List.forall_mem_cons.mpr ⟨rfl, List.forall_mem_cons.mpr ⟨rfl, List.forall_mem_cons.mpr ⟨rfl, List.forall_mem_cons.mpr ⟨rfl, List.forall_mem_cons.mpr ⟨rfl, List.forall_mem_cons.mpr ⟨rfl, List.forall_mem_cons.mpr ⟨rfl, List.forall_mem_cons.mpr ⟨rfl, List.forall_mem_cons.mpr ⟨rfl, List.forall_mem_cons.mpr ⟨rfl, fun _ h => absurd h List.not_mem_nil⟩⟩⟩⟩⟩⟩⟩⟩⟩⟩⟩⟩) ?_
          refine cut71 ((x * v1)) ?_ ?_
          · unfold cfN
            repeat split
            all_goals first
              | rfl
              | omega
          · omega
      refine hd_iload pkX14_coefficient rfl rfl ?_
      refine hd_ipush (z := 2) pkX14_coefficient rfl ?_
      refine hd_ic_ge pkX14_coefficient rfl (fun c13 => ?_) (fun c13 => ?_)
      · skip
        refine hd_ipush (z := 0) pkX14_coefficient rfl ?_
        refine m_sub [(0, (2, ((2495 : Nat) : Int))), (1, (0, k)), (2, (0, what)), (3, (0, x)), (4, (0, un)), (5, (1, v1)), (7, (1, v2)), (9, (1, x)), (11, (1, 0)), (13, (1, 1)), (15, (0, (un - what)))] (List.forall_mem_cons.mpr ⟨rfl, List.forall_mem_cons.mpr ⟨rfl, List.forall_mem_cons.mpr ⟨rfl, List.forall_mem_cons.mpr ⟨rfl, List.forall_mem_cons.mpr ⟨rfl, List.forall_mem_cons.mpr ⟨rfl, List.forall_mem_cons.mpr ⟨rfl, List.forall_mem_cons.mpr ⟨rfl, List.forall_mem_cons.mpr ⟨rfl, List.forall_mem_cons.mpr ⟨rfl, List.forall_mem_cons.mpr ⟨rfl, fun _ h => absurd h List.not_mem_nil⟩⟩⟩⟩⟩⟩⟩⟩⟩⟩⟩) ?_
        refine cut41 (0) ?_
        · omega
      · skip
        refine hd_iload pkX14_coefficient rfl rfl ?_
        refine hd_ipush (z := 1) pkX14_coefficient rfl ?_
        refine hd_ic_le pkX14_coefficient rfl (fun c14 => ?_) (fun c14 => ?_)
        · skip
          refine hd_ipush (z := 0) pkX14_coefficient rfl ?_
          refine m_sub [(0, (2, ((2495 : Nat) : Int))), (1, (0, k)), (2, (0, what)), (3, (0, x)), (4, (0, un)), (5, (1, v1)), (7, (1, v2)), (9, (1, x)), (11, (1, 0)), (13, (1, 1)), (15, (0, (un - what)))] (List.forall_mem_cons.mpr ⟨rfl, List.forall_mem_cons.mpr ⟨rfl, List.forall_mem_cons.mpr ⟨rfl, List.forall_mem_cons.mpr ⟨rfl, List.forall_mem_cons.mpr ⟨rfl, List.forall_mem_cons.mpr ⟨rfl, List.forall_mem_cons.mpr ⟨rfl, List.forall_mem_cons.mpr ⟨rfl, List.forall_mem_cons.mpr ⟨rfl, List.forall_mem_cons.mpr ⟨rfl, List.forall_mem_cons.mpr ⟨rfl, fun _ h => absurd h List.not_mem_nil⟩⟩⟩⟩⟩⟩⟩⟩⟩⟩⟩) ?_
          refine cut41 (0) ?_
          · omega
        · skip
          refine hd_ipush (z := 1) pkX14_coefficient rfl ?_
          refine hd_goto pkX14_coefficient rfl ?_
          refine m_sub [(0, (2, ((2495 : Nat) : Int))), (1, (0, k)), (2, (0, what)), (3, (0, x)), (4, (0, un)), (5, (1, v1)), (7, (1, v2)), (9, (1, x)), (11, (1, 0)), (13, (1, 1)), (15, (0, (un - what)))] (List.forall_mem_cons.mpr ⟨rfl, List.forall_mem_cons.mpr ⟨rfl, List.forall_mem_cons.mpr ⟨rfl, List.forall_mem_cons.mpr ⟨rfl, List.forall_mem_cons.mpr ⟨rfl, List.forall_mem_cons.mpr ⟨rfl, List.forall_mem_cons.mpr ⟨rfl, List.forall_mem_cons.mpr ⟨rfl, List.forall_mem_cons.mpr ⟨rfl, List.forall_mem_cons.mpr ⟨rfl, List.forall_mem_cons.mpr ⟨rfl, fun _ h => absurd h List.not_mem_nil⟩⟩⟩⟩⟩⟩⟩⟩⟩⟩⟩) ?_
          refine cut41 (1) ?_
          · omega
  · skip
    refine hd_lpush (z := 1) pkX14_coefficient rfl ?_
    refine hd_lstore pkX14_coefficient rfl rfl ?_
    change MW _ _ _ _ _ [(11, (1, 1)), (13, (1, 1)), (9, (1, x)), (7, (1, v2)), (5, (1, v1)), (0, (2, ((2495 : Nat) : Int))), (1, (0, k)), (2, (0, what)), (3, (0, x)), (4, (0, un))] _ _
    refine hd_goto pkX14_coefficient rfl ?_
    refine m_sub [(0, (2, ((2495 : Nat) : Int))), (1, (0, k)), (2, (0, what)), (3, (0, x)), (4, (0, un)), (5, (1, v1)), (7, (1, v2)), (9, (1, x)), (11, (1, 1)), (13, (1, 1))] (List.forall_mem_cons.mpr ⟨rfl, List.forall_mem_cons.mpr ⟨rfl, List.forall_mem_cons.mpr ⟨rfl, List.forall_mem_cons.mpr ⟨rfl, List.forall_mem_cons.mpr ⟨rfl, List.forall_mem_cons.mpr ⟨rfl, List.forall_mem_cons.mpr ⟨rfl, List.forall_mem_cons.mpr ⟨rfl, List.forall_mem_cons.mpr ⟨rfl, List.forall_mem_cons.mpr ⟨rfl, fun _ h => absurd h List.not_mem_nil⟩⟩⟩⟩⟩⟩⟩⟩⟩⟩) ?_
    refine cut99 (1) (1) ?_ ?_ ?_ ?_
    · unfold cfU
      repeat split
      all_goals omega
    · omega
    · unfold cfD
      repeat split
      all_goals first
        | omega
        | rw [d1v]
    · first
        | omega
        | (have := mul_pp d1b hv2; omega)
set_option maxRecDepth 20000 in
set_option maxHeartbeats 8000000 in
theorem h_X14_own {h : MH} {k what x load : Int} (hk : 0 ≤ k) (hk2 : k < 3) (hl : 1 ≤ ga h 2498 k ∧ ga h 2498 k ≤ 12) (he : 1 ≤ ga h 2499 k ∧ ga h 2499 k ≤ 12) (hx : 0 ≤ x ∧ x ≤ 4) (hw : 0 ≤ what ∧ what ≤ 3) (hu : 0 ≤ load ∧ load ≤ 4) (g : Str t14 r14 h) : MCal KX14_own yX14_own 0 0 [(2, ((2495 : Nat) : Int)), (0, k), (0, what), (0, x), (0, load)] h (mRV fun h' => Ch 70 2496 2497 [677, 678, 672, 674, 675, 676] h h' ∧ Hr 70 2496 2497 h' 677 678 (Rat.divInt (owU what x load (ga h 2498 k)) (owD what (ga h 2499 k)))) := by
  refine MCal.ofMW (Or.inl rfl) ⟨cp_X14, rfl⟩ (Nat.le_of_ble_eq_true rfl) ?_
  generalize eQ : (mRV fun h' => Ch 70 2496 2497 [677, 678, 672, 674, 675, 676] h h' ∧ Hr 70 2496 2497 h' 677 678 (Rat.divInt (owU what x load (ga h 2498 k)) (owD what (ga h 2499 k))) : MO → MH → Prop) = Q
  change MW KX14_own Q 0 0 (pcA pgX14_own 0) [(0, (2, ((2495 : Nat) : Int))), (1, (0, k)), (2, (0, what)), (3, (0, x)), (4, (0, load))] [] h
  refine hd_locI (i := 1) rfl (fun rk => ?_)
  refine hd_locI (i := 2) rfl (fun rwhat => ?_)
  refine hd_locI (i := 3) rfl (fun rx => ?_)
  refine hd_locI (i := 4) rfl (fun rload => ?_)
  refine hd_aload pkX14_own rfl rfl (Int.natCast_nonneg _) ?_
  refine hd_getR (n := 2498) pkX14_own rfl (g.cell 0 rfl).1 (g.cell 0 rfl).2.1 (g.ref 2 rfl) ?_
  refine hd_iload pkX14_own rfl rfl ?_
  refine hd_iald (n := 3) pkX14_own rfl (g.cell 3 rfl) (by omega) (by omega) (fun v1 ev1 rv1 => ?_)
  have hv1 : 1 ≤ v1 ∧ v1 ≤ 12 := by rw [ev1]; exact hl
  refine hd_i2l pkX14_own rfl ?_
  refine hd_lstore pkX14_own rfl rfl ?_
  change MW _ _ _ _ _ [(5, (1, v1)), (0, (2, ((2495 : Nat) : Int))), (1, (0, k)), (2, (0, what)), (3, (0, x)), (4, (0, load))] _ _
  have cut15 : ∀ (dd : Int), (dd = odX x load) → (0 ≤ dd ∧ dd ≤ 4) → MW KX14_own Q 0 0 (pcA pgX14_own 15) [(0, (2, ((2495 : Nat) : Int))), (1, (0, k)), (2, (0, what)), (3, (0, x)), (4, (0, load)), (5, (1, v1))] [(1, dd)] h := by
    intro dd ddv ddb
    refine hd_lstore pkX14_own rfl rfl ?_
    change MW _ _ _ _ _ [(7, (1, dd)), (0, (2, ((2495 : Nat) : Int))), (1, (0, k)), (2, (0, what)), (3, (0, x)), (4, (0, load)), (5, (1, v1))] _ _
    refine hd_aload pkX14_own rfl rfl (Int.natCast_nonneg _) ?_
    refine hd_getR (n := 2499) pkX14_own rfl (g.cell 0 rfl).1 (g.cell 0 rfl).2.1 (g.ref 3 rfl) ?_
    refine hd_iload pkX14_own rfl rfl ?_
    refine hd_iald (n := 3) pkX14_own rfl (g.cell 4 rfl) (by omega) (by omega) (fun v2 ev2 rv2 => ?_)
    have hvE : 1 ≤ v2 ∧ v2 ≤ 12 := by rw [ev2]; exact he
    obtain ⟨E, hE⟩ : ∃ E : Int, E = v2 := ⟨_, rfl⟩
    refine hd_i2l pkX14_own rfl ?_
    refine hd_lstore pkX14_own rfl rfl ?_
    change MW _ _ _ _ _ [(9, (1, v2)), (7, (1, dd)), (0, (2, ((2495 : Nat) : Int))), (1, (0, k)), (2, (0, what)), (3, (0, x)), (4, (0, load)), (5, (1, v1))] _ _
    have cut62 : ∀ (up : Int), (up = owU what x load v1) → (-110592 ≤ up ∧ up ≤ 110592) → MW KX14_own Q 0 0 (pcA pgX14_own 62) [(0, (2, ((2495 : Nat) : Int))), (1, (0, k)), (2, (0, what)), (3, (0, x)), (4, (0, load)), (5, (1, v1)), (7, (1, dd)), (9, (1, v2))] [(1, up)] h := by
      intro up uv ub
      refine hd_lstore pkX14_own rfl rfl ?_
      change MW _ _ _ _ _ [(11, (1, up)), (0, (2, ((2495 : Nat) : Int))), (1, (0, k)), (2, (0, what)), (3, (0, x)), (4, (0, load)), (5, (1, v1)), (7, (1, dd)), (9, (1, v2))] _ _
      have cut83 : ∀ (dn : Int), (dn = owD what v2) → (0 < dn ∧ dn ≤ 4608) → MW KX14_own Q 0 0 (pcA pgX14_own 83) [(0, (2, ((2495 : Nat) : Int))), (1, (0, k)), (2, (0, what)), (3, (0, x)), (4, (0, load)), (5, (1, v1)), (7, (1, dd)), (9, (1, v2)), (11, (1, up))] [(1, dn)] h := by
        intro dn dv db
        refine hd_lstore pkX14_own rfl rfl ?_
        change MW _ _ _ _ _ [(13, (1, dn)), (0, (2, ((2495 : Nat) : Int))), (1, (0, k)), (2, (0, what)), (3, (0, x)), (4, (0, load)), (5, (1, v1)), (7, (1, dd)), (9, (1, v2)), (11, (1, up))] _ _
        refine hd_aload pkX14_own rfl rfl (Int.natCast_nonneg _) ?_
        refine hd_ipush (z := 677) pkX14_own rfl ?_
        refine hd_ipush (z := 678) pkX14_own rfl ?_
        refine hd_lload pkX14_own rfl rfl ?_
        refine hd_lload pkX14_own rfl rfl ?_
        refine hd_callV pkX14_own rfl (q := (KX14_fraction, yX14_fraction, 14, 4, 0)) rfl rfl rfl (As := [(0, 677), (0, 678), (1, up), (1, dn)]) (rest := []) (c := 2495) rfl rfl (Nat.le_of_ble_eq_true rfl) (g.cell 0 rfl).1 (g.cell 0 rfl).2.1 (h_X14_fraction (u := 677) (d := 678) (p := up) (q := dn) (by decide) (by decide) (by decide) (by decide) (by decide) (by decide) (by decide) (by omega) (by omega) g) (hd_bV (fun hc3 pf => ?_))
        refine hd_vret pkX14_own rfl ?_
        subst eQ
        refine ⟨rfl, pf.1, ?_⟩
        have q := pf.2
        rw [uv, dv, ev1, ev2] at q
        exact q
      refine hd_iload pkX14_own rfl rfl ?_
      refine hd_ipush (z := 3) pkX14_own rfl ?_
      refine hd_ic_ne pkX14_own rfl (fun c4 => ?_) (fun c4 => ?_)
      · skip
        refine hd_iload pkX14_own rfl rfl ?_
        refine hd_ipush (z := 2) pkX14_own rfl ?_
        refine hd_ic_ne pkX14_own rfl (fun c5 => ?_) (fun c5 => ?_)
        · skip
          refine hd_iload pkX14_own rfl rfl ?_
          refine hd_ipush (z := 1) pkX14_own rfl ?_
          refine hd_ic_ne pkX14_own rfl (fun c6 => ?_) (fun c6 => ?_)
          · skip
            refine hd_lpush (z := 384) pkX14_own rfl ?_
            refine hd_lload pkX14_own rfl rfl ?_
            refine hd_lmul pkX14_own rfl (by omega) ?_
            refine m_sub [(0, (2, ((2495 : Nat) : Int))), (1, (0, k)), (2, (0, what)), (3, (0, x)), (4, (0, load)), (5, (1, v1)), (7, (1, dd)), (9, (1, v2)), (11, (1, up))] (List.forall_mem_cons.mpr ⟨rfl, List.forall_mem_cons.mpr ⟨rfl, List.forall_mem_cons.mpr ⟨rfl, List.forall_mem_cons.mpr ⟨rfl, List.forall_mem_cons.mpr ⟨rfl, List.forall_mem_cons.mpr ⟨rfl, List.forall_mem_cons.mpr ⟨rfl, List.forall_mem_cons.mpr ⟨rfl, List.forall_mem_cons.mpr ⟨rfl, fun _ h => absurd h List.not_mem_nil⟩⟩⟩⟩⟩⟩⟩⟩⟩) ?_
            refine cut83 ((384 * v2)) ?_ ?_
            · unfold owD
              repeat split
              all_goals first
                | rfl
                | omega
            · omega
          · skip
            refine hd_lpush (z := 32) pkX14_own rfl ?_
            refine hd_lload pkX14_own rfl rfl ?_
            refine hd_lmul pkX14_own rfl (by omega) ?_
            refine hd_goto pkX14_own rfl ?_
            refine m_sub [(0, (2, ((2495 : Nat) : Int))), (1, (0, k)), (2, (0, what)), (3, (0, x)), (4, (0, load)), (5, (1, v1)), (7, (1, dd)), (9, (1, v2)), (11, (1, up))] (List.forall_mem_cons.mpr ⟨rfl, List.forall_mem_cons.mpr ⟨rfl, List.forall_mem_cons.mpr ⟨rfl, List.forall_mem_cons.mpr ⟨rfl, List.forall_mem_cons.mpr ⟨rfl, List.forall_mem_cons.mpr ⟨rfl, List.forall_mem_cons.mpr ⟨rfl, List.forall_mem_cons.mpr ⟨rfl, List.forall_mem_cons.mpr ⟨rfl, fun _ h => absurd h List.not_mem_nil⟩⟩⟩⟩⟩⟩⟩⟩⟩) ?_
            refine cut83 ((32 * v2)) ?_ ?_
            · unfold owD
              repeat split
              all_goals first
                | rfl
                | omega
            · omega
        · skip
          refine hd_lpush (z := 4) pkX14_own rfl ?_
          refine hd_goto pkX14_own rfl ?_
          refine m_sub [(0, (2, ((2495 : Nat) : Int))), (1, (0, k)), (2, (0, what)), (3, (0, x)), (4, (0, load)), (5, (1, v1)), (7, (1, dd)), (9, (1, v2)), (11, (1, up))] (List.forall_mem_cons.mpr ⟨rfl, List.forall_mem_cons.mpr ⟨rfl, List.forall_mem_cons.mpr ⟨rfl, List.forall_mem_cons.mpr ⟨rfl, List.forall_mem_cons.mpr ⟨rfl, List.forall_mem_cons.mpr ⟨rfl, List.forall_mem_cons.mpr ⟨rfl, List.forall_mem_cons.mpr ⟨rfl, List.forall_mem_cons.mpr ⟨rfl, fun _ h => absurd h List.not_mem_nil⟩⟩⟩⟩⟩⟩⟩⟩⟩) ?_
          refine cut83 (4) ?_ ?_
          · unfold owD
            repeat split
            all_goals first
              | rfl
              | omega
          · omega
      · skip
        refine hd_lpush (z := 1) pkX14_own rfl ?_
        refine hd_goto pkX14_own rfl ?_
        refine m_sub [(0, (2, ((2495 : Nat) : Int))), (1, (0, k)), (2, (0, what)), (3, (0, x)), (4, (0, load)), (5, (1, v1)), (7, (1, dd)), (9, (1, v2)), (11, (1, up))] (List.forall_mem_cons.mpr ⟨rfl, List.forall_mem_cons.mpr ⟨rfl, List.forall_mem_cons.mpr ⟨rfl, List.forall_mem_cons.mpr ⟨rfl, List.forall_mem_cons.mpr ⟨rfl, List.forall_mem_cons.mpr ⟨rfl, List.forall_mem_cons.mpr ⟨rfl, List.forall_mem_cons.mpr ⟨rfl, List.forall_mem_cons.mpr ⟨rfl, fun _ h => absurd h List.not_mem_nil⟩⟩⟩⟩⟩⟩⟩⟩⟩) ?_
        refine cut83 (1) ?_ ?_
        · unfold owD
          repeat split
          all_goals first
            | rfl
            | omega
        · omega
    have X0 : 0 ≤ dd ∧ dd ≤ 4 := ddb
    have L0 : 0 ≤ v1 ∧ v1 ≤ 12 := by omega
    have m1 := mul_b X0 L0
    have m2 := mul_b X0 X0
    have m3 := mul_b m2 L0
    have m4 := mul_b m3 L0
    have m5 := mul_b m2 X0
    have m6 := mul_b m5 L0
    have m7 := mul_b m6 L0
    have m8 := mul_b m7 L0
    have m0 : -dd * v1 = -(dd * v1) := Int.neg_mul ..
    refine hd_iload pkX14_own rfl rfl ?_
    refine hd_ipush (z := 3) pkX14_own rfl ?_
    refine hd_ic_ne pkX14_own rfl (fun c7 => ?_) (fun c7 => ?_)
    · skip
      refine hd_iload pkX14_own rfl rfl ?_
      refine hd_ipush (z := 2) pkX14_own rfl ?_
      refine hd_ic_ne pkX14_own rfl (fun c8 => ?_) (fun c8 => ?_)
      · skip
        refine hd_iload pkX14_own rfl rfl ?_
        refine hd_ipush (z := 1) pkX14_own rfl ?_
        refine hd_ic_ne pkX14_own rfl (fun c9 => ?_) (fun c9 => ?_)
        · skip
          refine hd_lload pkX14_own rfl rfl ?_
          refine hd_lload pkX14_own rfl rfl ?_
          refine hd_lmul pkX14_own rfl (by omega) ?_
          refine hd_lload pkX14_own rfl rfl ?_
          refine hd_lmul pkX14_own rfl (by omega) ?_
          refine hd_lload pkX14_own rfl rfl ?_
          refine hd_lmul pkX14_own rfl (by omega) ?_
          refine hd_lload pkX14_own rfl rfl ?_
          refine hd_lmul pkX14_own rfl (by omega) ?_
          refine hd_lload pkX14_own rfl rfl ?_
          refine hd_lmul pkX14_own rfl (by omega) ?_
          refine m_sub [(0, (2, ((2495 : Nat) : Int))), (1, (0, k)), (2, (0, what)), (3, (0, x)), (4, (0, load)), (5, (1, v1)), (7, (1, dd)), (9, (1, v2))] (List.forall_mem_cons.mpr ⟨rfl, List.forall_mem_cons.mpr ⟨rfl, List.forall_mem_cons.mpr ⟨rfl, List.forall_mem_cons.mpr ⟨rfl, List.forall_mem_cons.mpr ⟨rfl, List.forall_mem_cons.mpr ⟨rfl, List.forall_mem_cons.mpr ⟨rfl, List.forall_mem_cons.mpr ⟨rfl, fun _ h => absurd h List.not_mem_nil⟩⟩⟩⟩⟩⟩⟩⟩) ?_
          refine cut62 ((((((dd * dd) * dd) * v1) * v1) * v1)) ?_ ?_
          · unfold owU
            rw [← ddv]
            repeat split
            all_goals first
              | rfl
              | omega
          · omega
        · skip
          refine hd_lload pkX14_own rfl rfl ?_
          refine hd_lload pkX14_own rfl rfl ?_
          refine hd_lmul pkX14_own rfl (by omega) ?_
          refine hd_lload pkX14_own rfl rfl ?_
          refine hd_lmul pkX14_own rfl (by omega) ?_
          refine hd_lload pkX14_own rfl rfl ?_
          refine hd_lmul pkX14_own rfl (by omega) ?_
          refine hd_goto pkX14_own rfl ?_
          refine m_sub [(0, (2, ((2495 : Nat) : Int))), (1, (0, k)), (2, (0, what)), (3, (0, x)), (4, (0, load)), (5, (1, v1)), (7, (1, dd)), (9, (1, v2))] (List.forall_mem_cons.mpr ⟨rfl, List.forall_mem_cons.mpr ⟨rfl, List.forall_mem_cons.mpr ⟨rfl, List.forall_mem_cons.mpr ⟨rfl, List.forall_mem_cons.mpr ⟨rfl, List.forall_mem_cons.mpr ⟨rfl, List.forall_mem_cons.mpr ⟨rfl, List.forall_mem_cons.mpr ⟨rfl, fun _ h => absurd h List.not_mem_nil⟩⟩⟩⟩⟩⟩⟩⟩) ?_
          refine cut62 ((((dd * dd) * v1) * v1)) ?_ ?_
          · unfold owU
            rw [← ddv]
            repeat split
            all_goals first
              | rfl
              | omega
          · omega
      · skip
        refine hd_lload pkX14_own rfl rfl ?_
        refine hd_lneg pkX14_own rfl (by omega) ?_
        refine hd_lload pkX14_own rfl rfl ?_
        refine hd_lmul pkX14_own rfl (by omega) ?_
        refine hd_goto pkX14_own rfl ?_
        refine m_sub [(0, (2, ((2495 : Nat) : Int))), (1, (0, k)), (2, (0, what)), (3, (0, x)), (4, (0, load)), (5, (1, v1)), (7, (1, dd)), (9, (1, v2))] (List.forall_mem_cons.mpr ⟨rfl, List.forall_mem_cons.mpr ⟨rfl, List.forall_mem_cons.mpr ⟨rfl, List.forall_mem_cons.mpr ⟨rfl, List.forall_mem_cons.mpr ⟨rfl, List.forall_mem_cons.mpr ⟨rfl, List.forall_mem_cons.mpr ⟨rfl, List.forall_mem_cons.mpr ⟨rfl, fun _ h => absurd h List.not_mem_nil⟩⟩⟩⟩⟩⟩⟩⟩) ?_
        refine cut62 (((-dd) * v1)) ?_ ?_
        · unfold owU
          rw [← ddv]
          repeat split
          all_goals first
            | rfl
            | omega
        · omega
    · skip
      refine hd_iload pkX14_own rfl rfl ?_
      refine hd_iload pkX14_own rfl rfl ?_
      refine hd_ic_le pkX14_own rfl (fun c10 => ?_) (fun c10 => ?_)
      · skip
        refine hd_lpush (z := 0) pkX14_own rfl ?_
        refine hd_goto pkX14_own rfl ?_
        refine m_sub [(0, (2, ((2495 : Nat) : Int))), (1, (0, k)), (2, (0, what)), (3, (0, x)), (4, (0, load)), (5, (1, v1)), (7, (1, dd)), (9, (1, v2))] (List.forall_mem_cons.mpr ⟨rfl, List.forall_mem_cons.mpr ⟨rfl, List.forall_mem_cons.mpr ⟨rfl, List.forall_mem_cons.mpr ⟨rfl, List.forall_mem_cons.mpr ⟨rfl, List.forall_mem_cons.mpr ⟨rfl, List.forall_mem_cons.mpr ⟨rfl, List.forall_mem_cons.mpr ⟨rfl, fun _ h => absurd h List.not_mem_nil⟩⟩⟩⟩⟩⟩⟩⟩) ?_
        refine cut62 (0) ?_ ?_
        · unfold owU
          rw [← ddv]
          repeat split
          all_goals first
            | rfl
            | omega
        · omega
      · skip
        refine hd_lpush (z := (-1)) pkX14_own rfl ?_
        refine hd_goto pkX14_own rfl ?_
        refine m_sub [(0, (2, ((2495 : Nat) : Int))), (1, (0, k)), (2, (0, what)), (3, (0, x)), (4, (0, load)), (5, (1, v1)), (7, (1, dd)), (9, (1, v2))] (List.forall_mem_cons.mpr ⟨rfl, List.forall_mem_cons.mpr ⟨rfl, List.forall_mem_cons.mpr ⟨rfl, List.forall_mem_cons.mpr ⟨rfl, List.forall_mem_cons.mpr ⟨rfl, List.forall_mem_cons.mpr ⟨rfl, List.forall_mem_cons.mpr ⟨rfl, List.forall_mem_cons.mpr ⟨rfl, fun _ h => absurd h List.not_mem_nil⟩⟩⟩⟩⟩⟩⟩⟩) ?_
        refine cut62 ((-1)) ?_ ?_
        · unfold owU
          rw [← ddv]
          repeat split
          all_goals first
            | rfl
            | omega
        · omega
  refine hd_iload pkX14_own rfl rfl ?_
  refine hd_iload pkX14_own rfl rfl ?_
  refine hd_ic_le pkX14_own rfl (fun c11 => ?_) (fun c11 => ?_)
  · skip
    refine hd_lpush (z := 0) pkX14_own rfl ?_
    refine m_sub [(0, (2, ((2495 : Nat) : Int))), (1, (0, k)), (2, (0, what)), (3, (0, x)), (4, (0, load)), (5, (1, v1))] (List.forall_mem_cons.mpr ⟨rfl, List.forall_mem_cons.mpr ⟨rfl, List.forall_mem_cons.mpr ⟨rfl, List.forall_mem_cons.mpr ⟨rfl, List.forall_mem_cons.mpr ⟨rfl, List.forall_mem_cons.mpr ⟨rfl, fun _ h => absurd h List.not_mem_nil⟩⟩⟩⟩⟩⟩) ?_
    refine cut15 (0) ?_ ?_
    · unfold odX
      split <;> omega
    · omega
  · skip
    refine hd_iload pkX14_own rfl rfl ?_
    refine hd_iload pkX14_own rfl rfl ?_
    refine hd_isub pkX14_own rfl (by omega) ?_
    refine hd_i2l pkX14_own rfl ?_
    refine hd_goto pkX14_own rfl ?_
    refine m_sub [(0, (2, ((2495 : Nat) : Int))), (1, (0, k)), (2, (0, what)), (3, (0, x)), (4, (0, load)), (5, (1, v1))] (List.forall_mem_cons.mpr ⟨rfl, List.forall_mem_cons.mpr ⟨rfl, List.forall_mem_cons.mpr ⟨rfl, List.forall_mem_cons.mpr ⟨rfl, List.forall_mem_cons.mpr ⟨rfl, List.forall_mem_cons.mpr ⟨rfl, fun _ h => absurd h List.not_mem_nil⟩⟩⟩⟩⟩⟩) ?_
    refine cut15 ((x - load)) ?_ ?_
    · unfold odX
      split <;> omega
    · omega
set_option maxRecDepth 20000 in
set_option maxHeartbeats 8000000 in
theorem h_X14_cell {h : MH} {a b : Int} (ha : 0 ≤ a ∧ a ≤ 1000) (hb : 0 ≤ b ∧ b ≤ 1000) (g : Str t14 r14 h) : MCal KX14_cell yX14_cell 0 0 [(0, a), (0, b)] h (mRI fun v h' => v = 28 * a + b ∧ h' = h) := by
  refine MCal.ofMW (Or.inl rfl) ⟨cp_X14, rfl⟩ (Nat.le_of_ble_eq_true rfl) ?_
  generalize eQ : (mRI fun v h' => v = 28 * a + b ∧ h' = h : MO → MH → Prop) = Q
  change MW KX14_cell Q 0 0 (pcA pgX14_cell 0) [(0, (0, a)), (1, (0, b))] [] h
  refine hd_locI (i := 0) rfl (fun ra => ?_)
  refine hd_locI (i := 1) rfl (fun rb => ?_)
  refine hd_ipush (z := 28) pkX14_cell rfl ?_
  refine hd_iload pkX14_cell rfl rfl ?_
  refine hd_imul pkX14_cell rfl (by omega) ?_
  refine hd_iload pkX14_cell rfl rfl ?_
  refine hd_iadd pkX14_cell rfl (by omega) ?_
  refine hd_iret pkX14_cell rfl ?_
  subst eQ
  exact ⟨rfl, rfl, rfl, rfl⟩
