/-! X12 by hand: its methods -/
set_option maxRecDepth 20000 in
set_option maxHeartbeats 8000000 in
theorem h_X12_isBefore {h : MH} {a b : Int} (ha : 0 ≤ a ∧ a < 88128) (hb : 0 ≤ b ∧ b < 88128) (g : Str t12c r12c h) : MCal KX12_isBefore yX12_isBefore 0 0 [(2, ((2449 : Nat) : Int)), (0, a), (0, b)] h (mRI fun v h' => Tv12 v (bf12 h a b) ∧ h' = h) := by
  refine MCal.ofMW (Or.inl rfl) ⟨cp_X12, rfl⟩ (Nat.le_of_ble_eq_true rfl) ?_
  generalize eQ : (mRI fun v h' => Tv12 v (bf12 h a b) ∧ h' = h : MO → MH → Prop) = Q
  change MW KX12_isBefore Q 0 0 (pcA pgX12_isBefore 0) [(0, (2, ((2449 : Nat) : Int))), (1, (0, a)), (2, (0, b))] [] h
  refine hd_locI (i := 1) rfl (fun ra => ?_)
  refine hd_locI (i := 2) rfl (fun rb => ?_)
  refine hd_aload pkX12_isBefore rfl rfl (Int.natCast_nonneg _) ?_
  refine hd_getR (n := 2460) pkX12_isBefore rfl (g.cell 0 rfl).1 (g.cell 0 rfl).2.1 (g.ref 10 rfl) ?_
  refine hd_iload pkX12_isBefore rfl rfl ?_
  refine hd_lald (n := 88128) pkX12_isBefore rfl (g.cell 11 rfl) (by omega) (by omega) (fun v1 ev1 rv1 => ?_)
  refine hd_aload pkX12_isBefore rfl rfl (Int.natCast_nonneg _) ?_
  refine hd_getR (n := 2460) pkX12_isBefore rfl (g.cell 0 rfl).1 (g.cell 0 rfl).2.1 (g.ref 10 rfl) ?_
  refine hd_iload pkX12_isBefore rfl rfl ?_
  refine hd_lald (n := 88128) pkX12_isBefore rfl (g.cell 11 rfl) (by omega) (by omega) (fun v2 ev2 rv2 => ?_)
  refine hd_lc_eq pkX12_isBefore rfl (fun c3 => ?_) (fun c3 => ?_)
  · skip
    refine hd_aload pkX12_isBefore rfl rfl (Int.natCast_nonneg _) ?_
    refine hd_getR (n := 2461) pkX12_isBefore rfl (g.cell 0 rfl).1 (g.cell 0 rfl).2.1 (g.ref 11 rfl) ?_
    refine hd_iload pkX12_isBefore rfl rfl ?_
    refine hd_iald (n := 88128) pkX12_isBefore rfl (g.cell 12 rfl) (by omega) (by omega) (fun v4 ev4 rv4 => ?_)
    refine hd_aload pkX12_isBefore rfl rfl (Int.natCast_nonneg _) ?_
    refine hd_getR (n := 2461) pkX12_isBefore rfl (g.cell 0 rfl).1 (g.cell 0 rfl).2.1 (g.ref 11 rfl) ?_
    refine hd_iload pkX12_isBefore rfl rfl ?_
    refine hd_iald (n := 88128) pkX12_isBefore rfl (g.cell 12 rfl) (by omega) (by omega) (fun v5 ev5 rv5 => ?_)
    refine hd_ic_eq pkX12_isBefore rfl (fun c6 => ?_) (fun c6 => ?_)
    · skip
      refine hd_aload pkX12_isBefore rfl rfl (Int.natCast_nonneg _) ?_
      refine hd_getR (n := 2462) pkX12_isBefore rfl (g.cell 0 rfl).1 (g.cell 0 rfl).2.1 (g.ref 12 rfl) ?_
      refine hd_iload pkX12_isBefore rfl rfl ?_
      refine hd_iald (n := 88128) pkX12_isBefore rfl (g.cell 13 rfl) (by omega) (by omega) (fun v7 ev7 rv7 => ?_)
      refine hd_aload pkX12_isBefore rfl rfl (Int.natCast_nonneg _) ?_
      refine hd_getR (n := 2462) pkX12_isBefore rfl (g.cell 0 rfl).1 (g.cell 0 rfl).2.1 (g.ref 12 rfl) ?_
      refine hd_iload pkX12_isBefore rfl rfl ?_
      refine hd_iald (n := 88128) pkX12_isBefore rfl (g.cell 13 rfl) (by omega) (by omega) (fun v8 ev8 rv8 => ?_)
      refine hd_ic_lt pkX12_isBefore rfl (fun c9 => ?_) (fun c9 => ?_)
      · skip
        refine hd_ipush (z := 1) pkX12_isBefore rfl ?_
        refine hd_goto pkX12_isBefore rfl ?_
        refine hd_zret pkX12_isBefore rfl (by omega) ?_
        subst eQ
        refine ⟨rfl, rfl, Or.inl ⟨rfl, ?_⟩, rfl⟩
        unfold bf12
        omega
      · skip
        refine hd_aload pkX12_isBefore rfl rfl (Int.natCast_nonneg _) ?_
        refine hd_getR (n := 2462) pkX12_isBefore rfl (g.cell 0 rfl).1 (g.cell 0 rfl).2.1 (g.ref 12 rfl) ?_
        refine hd_iload pkX12_isBefore rfl rfl ?_
        refine hd_iald (n := 88128) pkX12_isBefore rfl (g.cell 13 rfl) (by omega) (by omega) (fun v10 ev10 rv10 => ?_)
        refine hd_aload pkX12_isBefore rfl rfl (Int.natCast_nonneg _) ?_
        refine hd_getR (n := 2462) pkX12_isBefore rfl (g.cell 0 rfl).1 (g.cell 0 rfl).2.1 (g.ref 12 rfl) ?_
        refine hd_iload pkX12_isBefore rfl rfl ?_
        refine hd_iald (n := 88128) pkX12_isBefore rfl (g.cell 13 rfl) (by omega) (by omega) (fun v11 ev11 rv11 => ?_)
        refine hd_ic_ne pkX12_isBefore rfl (fun c12 => ?_) (fun c12 => ?_)
        · skip
          refine hd_ipush (z := 0) pkX12_isBefore rfl ?_
          refine hd_zret pkX12_isBefore rfl (by omega) ?_
          subst eQ
          refine ⟨rfl, rfl, Or.inr ⟨rfl, ?_⟩, rfl⟩
          unfold bf12
          omega
        · skip
          refine hd_iload pkX12_isBefore rfl rfl ?_
          refine hd_iload pkX12_isBefore rfl rfl ?_
          refine hd_ic_ge pkX12_isBefore rfl (fun c13 => ?_) (fun c13 => ?_)
          · skip
            refine hd_ipush (z := 0) pkX12_isBefore rfl ?_
            refine hd_zret pkX12_isBefore rfl (by omega) ?_
            subst eQ
            refine ⟨rfl, rfl, Or.inr ⟨rfl, ?_⟩, rfl⟩
            unfold bf12
            omega
          · skip
            refine hd_ipush (z := 1) pkX12_isBefore rfl ?_
            refine hd_goto pkX12_isBefore rfl ?_
            refine hd_zret pkX12_isBefore rfl (by omega) ?_
            subst eQ
            refine ⟨rfl, rfl, Or.inl ⟨rfl, ?_⟩, rfl⟩
            unfold bf12
            omega
    · skip
      refine hd_aload pkX12_isBefore rfl rfl (Int.natCast_nonneg _) ?_
      refine hd_getR (n := 2461) pkX12_isBefore rfl (g.cell 0 rfl).1 (g.cell 0 rfl).2.1 (g.ref 11 rfl) ?_
      refine hd_iload pkX12_isBefore rfl rfl ?_
      refine hd_iald (n := 88128) pkX12_isBefore rfl (g.cell 12 rfl) (by omega) (by omega) (fun v14 ev14 rv14 => ?_)
      refine hd_aload pkX12_isBefore rfl rfl (Int.natCast_nonneg _) ?_
      refine hd_getR (n := 2461) pkX12_isBefore rfl (g.cell 0 rfl).1 (g.cell 0 rfl).2.1 (g.ref 11 rfl) ?_
      refine hd_iload pkX12_isBefore rfl rfl ?_
      refine hd_iald (n := 88128) pkX12_isBefore rfl (g.cell 12 rfl) (by omega) (by omega) (fun v15 ev15 rv15 => ?_)
      refine hd_ic_ge pkX12_isBefore rfl (fun c16 => ?_) (fun c16 => ?_)
      · skip
        refine hd_ipush (z := 0) pkX12_isBefore rfl ?_
        refine hd_zret pkX12_isBefore rfl (by omega) ?_
        subst eQ
        refine ⟨rfl, rfl, Or.inr ⟨rfl, ?_⟩, rfl⟩
        unfold bf12
        omega
      · skip
        refine hd_ipush (z := 1) pkX12_isBefore rfl ?_
        refine hd_goto pkX12_isBefore rfl ?_
        refine hd_zret pkX12_isBefore rfl (by omega) ?_
        subst eQ
        refine ⟨rfl, rfl, Or.inl ⟨rfl, ?_⟩, rfl⟩
        unfold bf12
        omega
  · skip
    refine hd_aload pkX12_isBefore rfl rfl (Int.natCast_nonneg _) ?_
    refine hd_getR (n := 2460) pkX12_isBefore rfl (g.cell 0 rfl).1 (g.cell 0 rfl).2.1 (g.ref 10 rfl) ?_
    refine hd_iload pkX12_isBefore rfl rfl ?_
    refine hd_lald (n := 88128) pkX12_isBefore rfl (g.cell 11 rfl) (by omega) (by omega) (fun v17 ev17 rv17 => ?_)
    refine hd_aload pkX12_isBefore rfl rfl (Int.natCast_nonneg _) ?_
    refine hd_getR (n := 2460) pkX12_isBefore rfl (g.cell 0 rfl).1 (g.cell 0 rfl).2.1 (g.ref 10 rfl) ?_
    refine hd_iload pkX12_isBefore rfl rfl ?_
    refine hd_lald (n := 88128) pkX12_isBefore rfl (g.cell 11 rfl) (by omega) (by omega) (fun v18 ev18 rv18 => ?_)
    refine hd_lc_ge pkX12_isBefore rfl (fun c19 => ?_) (fun c19 => ?_)
    · skip
      refine hd_ipush (z := 0) pkX12_isBefore rfl ?_
      refine hd_zret pkX12_isBefore rfl (by omega) ?_
      subst eQ
      refine ⟨rfl, rfl, Or.inr ⟨rfl, ?_⟩, rfl⟩
      unfold bf12
      omega
    · skip
      refine hd_ipush (z := 1) pkX12_isBefore rfl ?_
      refine hd_goto pkX12_isBefore rfl ?_
      refine hd_zret pkX12_isBefore rfl (by omega) ?_
      subst eQ
      refine ⟨rfl, rfl, Or.inl ⟨rfl, ?_⟩, rfl⟩
      unfold bf12
      omega
set_option maxRecDepth 20000 in
set_option maxHeartbeats 8000000 in
theorem h_X12_costUpTo {h : MH} {c : Int} (g : Str t12c r12c h) : MCal KX12_costUpTo yX12_costUpTo 0 0 [(2, ((2449 : Nat) : Int)), (1, c)] h (mRL fun v h' => 0 ≤ v ∧ h' = h) := by
  refine MCal.ofMW (Or.inl rfl) ⟨cp_X12, rfl⟩ (Nat.le_of_ble_eq_true rfl) ?_
  generalize eQ : (mRL fun v h' => 0 ≤ v ∧ h' = h : MO → MH → Prop) = Q
  change MW KX12_costUpTo Q 0 0 (pcA pgX12_costUpTo 0) [(0, (2, ((2449 : Nat) : Int))), (1, (1, c))] [] h
  refine hd_locL (i := 1) rfl (fun rc => ?_)
  refine hd_lpush (z := 0) pkX12_costUpTo rfl ?_
  refine hd_lstore pkX12_costUpTo rfl rfl ?_
  change MW _ _ _ _ _ [(3, (1, 0)), (0, (2, ((2449 : Nat) : Int))), (1, (1, c))] _ _
  refine hd_ipush (z := 0) pkX12_costUpTo rfl ?_
  refine hd_istore pkX12_costUpTo rfl rfl ?_
  change MW _ _ _ _ _ [(5, (0, 0)), (3, (1, 0)), (0, (2, ((2449 : Nat) : Int))), (1, (1, c))] _ _
  have lp4 : ∀ (N4 : Nat) (x k : Int), (0 ≤ k ∧ k ≤ 88128) → (0 ≤ x ∧ x ≤ k) → (88128 : Int) - k < (N4 : Int) → MW KX12_costUpTo Q 0 0 (pcA pgX12_costUpTo 4) [(0, (2, ((2449 : Nat) : Int))), (1, (1, c)), (3, (1, x)), (5, (0, k))] [] h := by
    intro N4
    induction N4 with
    | zero => intro x k k0 x0 hm4; exfalso; omega
    | succ N4 ih4 =>
      intro x k k0 x0 hm4
      refine hd_iload pkX12_costUpTo rfl rfl ?_
      refine hd_ipush (z := 88128) pkX12_costUpTo rfl ?_
      refine hd_ic_ge pkX12_costUpTo rfl (fun c1 => ?_) (fun c1 => ?_)
      · skip
        refine hd_lload pkX12_costUpTo rfl rfl ?_
        refine hd_lret pkX12_costUpTo rfl ?_
        subst eQ
        exact ⟨rfl, rfl, x0.1, rfl⟩
      · skip
        refine hd_lload pkX12_costUpTo rfl rfl ?_
        refine hd_aload pkX12_costUpTo rfl rfl (Int.natCast_nonneg _) ?_
        refine hd_getR (n := 2463) pkX12_costUpTo rfl (g.cell 0 rfl).1 (g.cell 0 rfl).2.1 (g.ref 13 rfl) ?_
        refine hd_iload pkX12_costUpTo rfl rfl ?_
        refine hd_zald (n := 88128) pkX12_costUpTo rfl (g.cell 14 rfl) (by omega) (by omega) (fun v2 ev2 rv2 => ?_)
        refine hd_if_eq pkX12_costUpTo rfl (fun c3 => ?_) (fun c3 => ?_)
        · skip
          refine hd_lpush (z := 0) pkX12_costUpTo rfl ?_
          refine hd_ladd pkX12_costUpTo rfl (by omega) ?_
          refine hd_lstore pkX12_costUpTo rfl rfl ?_
          change MW _ _ _ _ _ [(3, (1, (x + 0))), (0, (2, ((2449 : Nat) : Int))), (1, (1, c)), (5, (0, k))] _ _
          refine hd_iinc (z := 1) pkX12_costUpTo rfl rfl (by omega) rfl ?_
          change MW _ _ _ _ _ [(5, (0, (k + 1))), (3, (1, (x + 0))), (0, (2, ((2449 : Nat) : Int))), (1, (1, c))] _ _
          refine hd_goto pkX12_costUpTo rfl ?_
          refine m_sub [(0, (2, ((2449 : Nat) : Int))), (1, (1, c)), (3, (1, (x + 0))), (5, (0, (k + 1)))] (List.forall_mem_cons.mpr ⟨rfl, List.forall_mem_cons.mpr ⟨rfl, List.forall_mem_cons.mpr ⟨rfl, List.forall_mem_cons.mpr ⟨rfl, fun _ h => absurd h List.not_mem_nil⟩⟩⟩⟩) ?_
          refine ih4  ((x + 0)) ((k + 1)) ?_ ?_ ?_
          · omega
          · omega
          · omega
        · skip
          refine hd_aload pkX12_costUpTo rfl rfl (Int.natCast_nonneg _) ?_
          refine hd_getR (n := 2460) pkX12_costUpTo rfl (g.cell 0 rfl).1 (g.cell 0 rfl).2.1 (g.ref 10 rfl) ?_
          refine hd_iload pkX12_costUpTo rfl rfl ?_
          refine hd_lald (n := 88128) pkX12_costUpTo rfl (g.cell 11 rfl) (by omega) (by omega) (fun v4 ev4 rv4 => ?_)
          refine hd_lload pkX12_costUpTo rfl rfl ?_
          refine hd_lc_gt pkX12_costUpTo rfl (fun c5 => ?_) (fun c5 => ?_)
          · skip
            refine hd_lpush (z := 0) pkX12_costUpTo rfl ?_
            refine hd_ladd pkX12_costUpTo rfl (by omega) ?_
            refine hd_lstore pkX12_costUpTo rfl rfl ?_
            change MW _ _ _ _ _ [(3, (1, (x + 0))), (0, (2, ((2449 : Nat) : Int))), (1, (1, c)), (5, (0, k))] _ _
            refine hd_iinc (z := 1) pkX12_costUpTo rfl rfl (by omega) rfl ?_
            change MW _ _ _ _ _ [(5, (0, (k + 1))), (3, (1, (x + 0))), (0, (2, ((2449 : Nat) : Int))), (1, (1, c))] _ _
            refine hd_goto pkX12_costUpTo rfl ?_
            refine m_sub [(0, (2, ((2449 : Nat) : Int))), (1, (1, c)), (3, (1, (x + 0))), (5, (0, (k + 1)))] (List.forall_mem_cons.mpr ⟨rfl, List.forall_mem_cons.mpr ⟨rfl, List.forall_mem_cons.mpr ⟨rfl, List.forall_mem_cons.mpr ⟨rfl, fun _ h => absurd h List.not_mem_nil⟩⟩⟩⟩) ?_
            refine ih4  ((x + 0)) ((k + 1)) ?_ ?_ ?_
            · omega
            · omega
            · omega
          · skip
            refine hd_lpush (z := 1) pkX12_costUpTo rfl ?_
            refine hd_goto pkX12_costUpTo rfl ?_
            refine hd_ladd pkX12_costUpTo rfl (by omega) ?_
            refine hd_lstore pkX12_costUpTo rfl rfl ?_
            change MW _ _ _ _ _ [(3, (1, (x + 1))), (0, (2, ((2449 : Nat) : Int))), (1, (1, c)), (5, (0, k))] _ _
            refine hd_iinc (z := 1) pkX12_costUpTo rfl rfl (by omega) rfl ?_
            change MW _ _ _ _ _ [(5, (0, (k + 1))), (3, (1, (x + 1))), (0, (2, ((2449 : Nat) : Int))), (1, (1, c))] _ _
            refine hd_goto pkX12_costUpTo rfl ?_
            refine m_sub [(0, (2, ((2449 : Nat) : Int))), (1, (1, c)), (3, (1, (x + 1))), (5, (0, (k + 1)))] (List.forall_mem_cons.mpr ⟨rfl, List.forall_mem_cons.mpr ⟨rfl, List.forall_mem_cons.mpr ⟨rfl, List.forall_mem_cons.mpr ⟨rfl, fun _ h => absurd h List.not_mem_nil⟩⟩⟩⟩) ?_
            refine ih4  ((x + 1)) ((k + 1)) ?_ ?_ ?_
            · omega
            · omega
            · omega
  refine m_sub [(0, (2, ((2449 : Nat) : Int))), (1, (1, c)), (3, (1, 0)), (5, (0, 0))] (List.forall_mem_cons.mpr ⟨rfl, List.forall_mem_cons.mpr ⟨rfl, List.forall_mem_cons.mpr ⟨rfl, List.forall_mem_cons.mpr ⟨rfl, fun _ h => absurd h List.not_mem_nil⟩⟩⟩⟩) ?_
  refine lp4 (((88128 : Int) - (0)) + 1).toNat (0) (0) ?_ ?_ ?_
  · omega
  · omega
  · omega
set_option maxRecDepth 20000 in
set_option maxHeartbeats 8000000 in
theorem h_X12_cellOf {h : MH} {w k : Int} (hs : ga h 2449 0 = 12 ∧ ga h 2449 1 = 12) (pp : P12 h) (hh : ∀ j : Int, 0 ≤ j → j < 30000 → 0 ≤ ga h 2467 j ∧ ga h 2467 j ≤ 15) (hw : 0 ≤ w ∧ w ≤ 5) (hk : 0 ≤ k ∧ k ≤ ga h 2466 w) (hm : ga h 2466 w ≤ 5000) (g : Str t12c r12c h) : MCal KX12_cellOf yX12_cellOf 0 0 [(2, ((2449 : Nat) : Int)), (0, w), (0, k)] h (mRI fun v h' => (0 ≤ v ∧ v ≤ 143) ∧ h' = h) := by
  refine MCal.ofMW (Or.inl rfl) ⟨cp_X12, rfl⟩ (Nat.le_of_ble_eq_true rfl) ?_
  generalize eQ : (mRI fun v h' => (0 ≤ v ∧ v ≤ 143) ∧ h' = h : MO → MH → Prop) = Q
  change MW KX12_cellOf Q 0 0 (pcA pgX12_cellOf 0) [(0, (2, ((2449 : Nat) : Int))), (1, (0, w)), (2, (0, k))] [] h
  refine hd_locI (i := 1) rfl (fun rw => ?_)
  refine hd_locI (i := 2) rfl (fun rk => ?_)
  refine hd_aload pkX12_cellOf rfl rfl (Int.natCast_nonneg _) ?_
  refine hd_getR (n := 2465) pkX12_cellOf rfl (g.cell 0 rfl).1 (g.cell 0 rfl).2.1 (g.ref 15 rfl) ?_
  refine hd_iload pkX12_cellOf rfl rfl ?_
  refine hd_iald (n := 6) pkX12_cellOf rfl (g.cell 16 rfl) (by omega) (by omega) (fun v1 ev1 rv1 => ?_)
  refine hd_istore pkX12_cellOf rfl rfl ?_
  change MW _ _ _ _ _ [(3, (0, v1)), (0, (2, ((2449 : Nat) : Int))), (1, (0, w)), (2, (0, k))] _ _
  refine hd_ipush (z := 0) pkX12_cellOf rfl ?_
  refine hd_istore pkX12_cellOf rfl rfl ?_
  change MW _ _ _ _ _ [(4, (0, 0)), (3, (0, v1)), (0, (2, ((2449 : Nat) : Int))), (1, (0, w)), (2, (0, k))] _ _
  have lp7 : ∀ (N7 : Nat) (x i : Int), (0 ≤ i ∧ i ≤ k) → (x = pc12 (ga h 2467) (ga h 2465 w) (5000 * w) i.toNat) → k - i < (N7 : Int) → MW KX12_cellOf Q 0 0 (pcA pgX12_cellOf 7) [(0, (2, ((2449 : Nat) : Int))), (1, (0, w)), (2, (0, k)), (3, (0, x)), (4, (0, i))] [] h := by
    intro N7
    induction N7 with
    | zero => intro x i i0 xv hm7; exfalso; omega
    | succ N7 ih7 =>
      intro x i i0 xv hm7
      have xb := pp w hw.1 hw.2 i.toNat (by omega) (by omega)
      rw [← xv] at xb
      refine hd_iload pkX12_cellOf rfl rfl ?_
      refine hd_iload pkX12_cellOf rfl rfl ?_
      refine hd_ic_ge pkX12_cellOf rfl (fun c2 => ?_) (fun c2 => ?_)
      · skip
        refine hd_iload pkX12_cellOf rfl rfl ?_
        refine hd_iret pkX12_cellOf rfl ?_
        subst eQ
        exact ⟨rfl, rfl, xb, rfl⟩
      · skip
        refine hd_aload pkX12_cellOf rfl rfl (Int.natCast_nonneg _) ?_
        refine hd_iload pkX12_cellOf rfl rfl ?_
        refine hd_aload pkX12_cellOf rfl rfl (Int.natCast_nonneg _) ?_
        refine hd_getR (n := 2467) pkX12_cellOf rfl (g.cell 0 rfl).1 (g.cell 0 rfl).2.1 (g.ref 17 rfl) ?_
        refine hd_ipush (z := 5000) pkX12_cellOf rfl ?_
        refine hd_iload pkX12_cellOf rfl rfl ?_
        refine hd_imul pkX12_cellOf rfl (by omega) ?_
        refine hd_iload pkX12_cellOf rfl rfl ?_
        refine hd_iadd pkX12_cellOf rfl (by omega) ?_
        refine hd_bald (n := 30000) pkX12_cellOf rfl (g.cell 18 rfl) (by omega) (by omega) (fun v3 ev3 rv3 => ?_)
        obtain ⟨hv, qv3⟩ : ∃ x : Int, x = v3 := ⟨_, rfl⟩
        have ehv : hv = ga h 2467 (5000 * w + i) := qv3.trans ev3
        have hvb : 0 ≤ hv ∧ hv ≤ 15 := by rw [ehv]; exact hh (5000 * w + i) (by omega) (by omega)
        subst qv3
        refine hd_callV pkX12_cellOf rfl (q := (KX12_step, yX12_step, 12, 2, 0)) rfl rfl rfl (As := [(0, x), (0, hv)]) (rest := []) (c := 2449) rfl rfl (Nat.le_of_ble_eq_true rfl) (g.cell 0 rfl).1 (g.cell 0 rfl).2.1 (h_X12_step xb hvb hs g) (hd_bI (fun w4 hc5 ps => ?_))
        obtain ⟨ps, ehc5⟩ := ps
        replace ehc5 := ehc5.symm
        subst ehc5
        subst ps
        refine hd_istore pkX12_cellOf rfl rfl ?_
        change MW _ _ _ _ _ [(3, (0, (st12 x hv))), (0, (2, ((2449 : Nat) : Int))), (1, (0, w)), (2, (0, k)), (4, (0, i))] _ _
        refine hd_iinc (z := 1) pkX12_cellOf rfl rfl (by omega) rfl ?_
        change MW _ _ _ _ _ [(4, (0, (i + 1))), (3, (0, (st12 x hv))), (0, (2, ((2449 : Nat) : Int))), (1, (0, w)), (2, (0, k))] _ _
        refine hd_goto pkX12_cellOf rfl ?_
        refine m_sub [(0, (2, ((2449 : Nat) : Int))), (1, (0, w)), (2, (0, k)), (3, (0, (st12 x hv))), (4, (0, (i + 1)))] (List.forall_mem_cons.mpr ⟨rfl, List.forall_mem_cons.mpr ⟨rfl, List.forall_mem_cons.mpr ⟨rfl, List.forall_mem_cons.mpr ⟨rfl, List.forall_mem_cons.mpr ⟨rfl, fun _ h => absurd h List.not_mem_nil⟩⟩⟩⟩⟩) ?_
        refine ih7  ((st12 x hv)) ((i + 1)) ?_ ?_ ?_
        · omega
        · rw [show (i + 1).toNat = i.toNat + 1 by omega]
          show _ = st12 (pc12 (ga h 2467) (ga h 2465 w) (5000 * w) i.toNat) (ga h 2467 (5000 * w + (i.toNat : Int)))
          rw [← xv, show ((i.toNat : Nat) : Int) = i by omega, ← ehv]
        · omega
  refine m_sub [(0, (2, ((2449 : Nat) : Int))), (1, (0, w)), (2, (0, k)), (3, (0, v1)), (4, (0, 0))] (List.forall_mem_cons.mpr ⟨rfl, List.forall_mem_cons.mpr ⟨rfl, List.forall_mem_cons.mpr ⟨rfl, List.forall_mem_cons.mpr ⟨rfl, List.forall_mem_cons.mpr ⟨rfl, fun _ h => absurd h List.not_mem_nil⟩⟩⟩⟩⟩) ?_
  refine lp7 ((k - (0)) + 1).toNat (v1) (0) ?_ ?_ ?_
  · omega
  · show _ = ga h 2465 w
    omega
  · omega
set_option maxRecDepth 20000 in
set_option maxHeartbeats 8000000 in
theorem h_X12_isLessPart {h : MH} {a b c d : Int} (ha : -4000000000000 ≤ a ∧ a ≤ 4000000000000) (hb : 1 ≤ b ∧ b ≤ 4000000000000) (hc : -4000000000000 ≤ c ∧ c ≤ 4000000000000) (hd : 1 ≤ d ∧ d ≤ 4000000000000) (g : Str t12c r12c h) : MCal KX12_isLessPart yX12_isLessPart 0 0 [(1, a), (1, b), (1, c), (1, d)] h (mRI fun v h' => (v = 0 ∨ v = 1) ∧ h' = h) := by
  refine MCal.ofMW (Or.inl rfl) ⟨cp_X12, rfl⟩ (Nat.le_of_ble_eq_true rfl) ?_
  generalize eQ : (mRI fun v h' => (v = 0 ∨ v = 1) ∧ h' = h : MO → MH → Prop) = Q
  change MW KX12_isLessPart Q 0 0 (pcA pgX12_isLessPart 0) [(0, (1, a)), (2, (1, b)), (4, (1, c)), (6, (1, d))] [] h
  refine hd_locL (i := 0) rfl (fun ra => ?_)
  refine hd_locL (i := 2) rfl (fun rb => ?_)
  refine hd_locL (i := 4) rfl (fun rc => ?_)
  refine hd_locL (i := 6) rfl (fun rd => ?_)
  refine hd_lload pkX12_isLessPart rfl rfl ?_
  refine hd_lstore pkX12_isLessPart rfl rfl ?_
  change MW _ _ _ _ _ [(8, (1, a)), (0, (1, a)), (2, (1, b)), (4, (1, c)), (6, (1, d))] _ _
  refine hd_lload pkX12_isLessPart rfl rfl ?_
  refine hd_lstore pkX12_isLessPart rfl rfl ?_
  change MW _ _ _ _ _ [(10, (1, b)), (8, (1, a)), (0, (1, a)), (2, (1, b)), (4, (1, c)), (6, (1, d))] _ _
  refine hd_lload pkX12_isLessPart rfl rfl ?_
  refine hd_lstore pkX12_isLessPart rfl rfl ?_
  change MW _ _ _ _ _ [(12, (1, c)), (10, (1, b)), (8, (1, a)), (0, (1, a)), (2, (1, b)), (4, (1, c)), (6, (1, d))] _ _
  refine hd_lload pkX12_isLessPart rfl rfl ?_
  refine hd_lstore pkX12_isLessPart rfl rfl ?_
  change MW _ _ _ _ _ [(14, (1, d)), (12, (1, c)), (10, (1, b)), (8, (1, a)), (0, (1, a)), (2, (1, b)), (4, (1, c)), (6, (1, d))] _ _
  refine hd_ipush (z := 0) pkX12_isLessPart rfl ?_
  refine hd_istore pkX12_isLessPart rfl rfl ?_
  change MW _ _ _ _ _ [(16, (0, 0)), (14, (1, d)), (12, (1, c)), (10, (1, b)), (8, (1, a)), (0, (1, a)), (2, (1, b)), (4, (1, c)), (6, (1, d))] _ _
  have lp10 : ∀ (N10 : Nat) (p q r s t : Int), (-4000000000000 ≤ p ∧ p ≤ 4000000000000) → (1 ≤ q ∧ q ≤ 4000000000000) → (-4000000000000 ≤ r ∧ r ≤ 4000000000000) → (1 ≤ s ∧ s ≤ 4000000000000) → (0 ≤ t ∧ t ≤ 1) → q < (N10 : Int) → MW KX12_isLessPart Q 0 0 (pcA pgX12_isLessPart 10) [(0, (1, a)), (2, (1, b)), (4, (1, c)), (6, (1, d)), (8, (1, p)), (10, (1, q)), (12, (1, r)), (14, (1, s)), (16, (0, t))] [] h := by
    intro N10
    induction N10 with
    | zero => intro p q r s t pb qb rb sb tb hm10; exfalso; omega
    | succ N10 ih10 =>
      intro p q r s t pb qb rb sb tb hm10
      refine hd_lload pkX12_isLessPart rfl rfl ?_
      refine hd_lload pkX12_isLessPart rfl rfl ?_
      refine hd_ldiv pkX12_isLessPart rfl (by omega) (by have := td12 pb qb; omega) ?_
      generalize exa : (Int.tdiv p q) = xa
      have bxa := td12 pb qb
      rw [exa] at bxa
      refine hd_lstore pkX12_isLessPart rfl rfl ?_
      change MW _ _ _ _ _ [(17, (1, xa)), (0, (1, a)), (2, (1, b)), (4, (1, c)), (6, (1, d)), (8, (1, p)), (10, (1, q)), (12, (1, r)), (14, (1, s)), (16, (0, t))] _ _
      refine hd_lload pkX12_isLessPart rfl rfl ?_
      refine hd_lload pkX12_isLessPart rfl rfl ?_
      refine hd_lrem pkX12_isLessPart rfl (by omega) (by have := tm12 pb qb; omega) ?_
      generalize exam : (Int.tmod p q) = xam
      have cut25 : ∀ (fx : Int), (fx = p / q) → MW KX12_isLessPart Q 0 0 (pcA pgX12_isLessPart 25) [(0, (1, a)), (2, (1, b)), (4, (1, c)), (6, (1, d)), (8, (1, p)), (10, (1, q)), (12, (1, r)), (14, (1, s)), (16, (0, t)), (17, (1, xa))] [(1, fx)] h := by
        intro fx efx
        refine hd_lstore pkX12_isLessPart rfl rfl ?_
        change MW _ _ _ _ _ [(17, (1, fx)), (0, (1, a)), (2, (1, b)), (4, (1, c)), (6, (1, d)), (8, (1, p)), (10, (1, q)), (12, (1, r)), (14, (1, s)), (16, (0, t))] _ _
        refine hd_lload pkX12_isLessPart rfl rfl ?_
        refine hd_lload pkX12_isLessPart rfl rfl ?_
        refine hd_ldiv pkX12_isLessPart rfl (by omega) (by have := td12 rb sb; omega) ?_
        generalize eya : (Int.tdiv r s) = ya
        have bya := td12 rb sb
        rw [eya] at bya
        refine hd_lstore pkX12_isLessPart rfl rfl ?_
        change MW _ _ _ _ _ [(19, (1, ya)), (17, (1, fx)), (0, (1, a)), (2, (1, b)), (4, (1, c)), (6, (1, d)), (8, (1, p)), (10, (1, q)), (12, (1, r)), (14, (1, s)), (16, (0, t))] _ _
        refine hd_lload pkX12_isLessPart rfl rfl ?_
        refine hd_lload pkX12_isLessPart rfl rfl ?_
        refine hd_lrem pkX12_isLessPart rfl (by omega) (by have := tm12 rb sb; omega) ?_
        generalize eyam : (Int.tmod r s) = yam
        have cut41 : ∀ (fy : Int), (fy = r / s) → MW KX12_isLessPart Q 0 0 (pcA pgX12_isLessPart 41) [(0, (1, a)), (2, (1, b)), (4, (1, c)), (6, (1, d)), (8, (1, p)), (10, (1, q)), (12, (1, r)), (14, (1, s)), (16, (0, t)), (17, (1, fx)), (19, (1, ya))] [(1, fy)] h := by
          intro fy efy
          refine hd_lstore pkX12_isLessPart rfl rfl ?_
          change MW _ _ _ _ _ [(19, (1, fy)), (0, (1, a)), (2, (1, b)), (4, (1, c)), (6, (1, d)), (8, (1, p)), (10, (1, q)), (12, (1, r)), (14, (1, s)), (16, (0, t)), (17, (1, fx))] _ _
          have f1 := fl12 (p := p) (q := q) (by omega)
          have f2 := fl12 (p := r) (q := s) (by omega)
          rw [← efx] at f1
          rw [← efy] at f2
          refine hd_lload pkX12_isLessPart rfl rfl ?_
          refine hd_lload pkX12_isLessPart rfl rfl ?_
          refine hd_lc_eq pkX12_isLessPart rfl (fun c1 => ?_) (fun c1 => ?_)
          · skip
            refine hd_lload pkX12_isLessPart rfl rfl ?_
            refine hd_lload pkX12_isLessPart rfl rfl ?_
            refine hd_lload pkX12_isLessPart rfl rfl ?_
            refine hd_lmul pkX12_isLessPart rfl (by omega) ?_
            refine hd_lsub pkX12_isLessPart rfl (by omega) ?_
            generalize ep2 : (p - (fx * q)) = p2
            refine hd_lstore pkX12_isLessPart rfl rfl ?_
            change MW _ _ _ _ _ [(8, (1, p2)), (19, (1, fy)), (0, (1, a)), (2, (1, b)), (4, (1, c)), (6, (1, d)), (10, (1, q)), (12, (1, r)), (14, (1, s)), (16, (0, t)), (17, (1, fx))] _ _
            refine hd_lload pkX12_isLessPart rfl rfl ?_
            refine hd_lload pkX12_isLessPart rfl rfl ?_
            refine hd_lload pkX12_isLessPart rfl rfl ?_
            refine hd_lmul pkX12_isLessPart rfl (by omega) ?_
            refine hd_lsub pkX12_isLessPart rfl (by omega) ?_
            generalize er2 : (r - (fy * s)) = r2
            refine hd_lstore pkX12_isLessPart rfl rfl ?_
            change MW _ _ _ _ _ [(12, (1, r2)), (8, (1, p2)), (19, (1, fy)), (0, (1, a)), (2, (1, b)), (4, (1, c)), (6, (1, d)), (10, (1, q)), (14, (1, s)), (16, (0, t)), (17, (1, fx))] _ _
            refine hd_lload pkX12_isLessPart rfl rfl ?_
            refine hd_lpush (z := 0) pkX12_isLessPart rfl ?_
            refine hd_lc_eq pkX12_isLessPart rfl (fun c2 => ?_) (fun c2 => ?_)
            · skip
              refine hd_lload pkX12_isLessPart rfl rfl ?_
              refine hd_lload pkX12_isLessPart rfl rfl ?_
              refine hd_lc_eq pkX12_isLessPart rfl (fun c3 => ?_) (fun c3 => ?_)
              · skip
                refine hd_ipush (z := 0) pkX12_isLessPart rfl ?_
                refine hd_zret pkX12_isLessPart rfl (by omega) ?_
                subst eQ
                exact ⟨rfl, rfl, by show (0 : Int) = 0 ∨ (0 : Int) = 1; omega, rfl⟩
              · skip
                refine hd_lload pkX12_isLessPart rfl rfl ?_
                refine hd_lpush (z := 0) pkX12_isLessPart rfl ?_
                refine hd_lc_ne pkX12_isLessPart rfl (fun c4 => ?_) (fun c4 => ?_)
                · skip
                  refine hd_ipush (z := 0) pkX12_isLessPart rfl ?_
                  refine hd_iload pkX12_isLessPart rfl rfl ?_
                  refine hd_ic_eq pkX12_isLessPart rfl (fun c5 => ?_) (fun c5 => ?_)
                  · skip
                    refine hd_ipush (z := 0) pkX12_isLessPart rfl ?_
                    refine hd_zret pkX12_isLessPart rfl (by omega) ?_
                    subst eQ
                    exact ⟨rfl, rfl, by show (0 : Int) = 0 ∨ (0 : Int) = 1; omega, rfl⟩
                  · skip
                    refine hd_ipush (z := 1) pkX12_isLessPart rfl ?_
                    refine hd_goto pkX12_isLessPart rfl ?_
                    refine hd_zret pkX12_isLessPart rfl (by omega) ?_
                    subst eQ
                    exact ⟨rfl, rfl, by show (1 : Int) = 0 ∨ (1 : Int) = 1; omega, rfl⟩
                · skip
                  refine hd_ipush (z := 1) pkX12_isLessPart rfl ?_
                  refine hd_goto pkX12_isLessPart rfl ?_
                  refine hd_iload pkX12_isLessPart rfl rfl ?_
                  refine hd_ic_eq pkX12_isLessPart rfl (fun c6 => ?_) (fun c6 => ?_)
                  · skip
                    refine hd_ipush (z := 0) pkX12_isLessPart rfl ?_
                    refine hd_zret pkX12_isLessPart rfl (by omega) ?_
                    subst eQ
                    exact ⟨rfl, rfl, by show (0 : Int) = 0 ∨ (0 : Int) = 1; omega, rfl⟩
                  · skip
                    refine hd_ipush (z := 1) pkX12_isLessPart rfl ?_
                    refine hd_goto pkX12_isLessPart rfl ?_
                    refine hd_zret pkX12_isLessPart rfl (by omega) ?_
                    subst eQ
                    exact ⟨rfl, rfl, by show (1 : Int) = 0 ∨ (1 : Int) = 1; omega, rfl⟩
            · skip
              refine hd_lload pkX12_isLessPart rfl rfl ?_
              refine hd_lpush (z := 0) pkX12_isLessPart rfl ?_
              refine hd_lc_ne pkX12_isLessPart rfl (fun c7 => ?_) (fun c7 => ?_)
              · skip
                refine hd_lload pkX12_isLessPart rfl rfl ?_
                refine hd_lstore pkX12_isLessPart rfl rfl ?_
                change MW _ _ _ _ _ [(21, (1, p2)), (12, (1, r2)), (8, (1, p2)), (19, (1, fy)), (0, (1, a)), (2, (1, b)), (4, (1, c)), (6, (1, d)), (10, (1, q)), (14, (1, s)), (16, (0, t)), (17, (1, fx))] _ _
                refine hd_lload pkX12_isLessPart rfl rfl ?_
                refine hd_lstore pkX12_isLessPart rfl rfl ?_
                change MW _ _ _ _ _ [(8, (1, q)), (21, (1, p2)), (12, (1, r2)), (19, (1, fy)), (0, (1, a)), (2, (1, b)), (4, (1, c)), (6, (1, d)), (10, (1, q)), (14, (1, s)), (16, (0, t)), (17, (1, fx))] _ _
                refine hd_lload pkX12_isLessPart rfl rfl ?_
                refine hd_lstore pkX12_isLessPart rfl rfl ?_
                change MW _ _ _ _ _ [(10, (1, p2)), (8, (1, q)), (21, (1, p2)), (12, (1, r2)), (19, (1, fy)), (0, (1, a)), (2, (1, b)), (4, (1, c)), (6, (1, d)), (14, (1, s)), (16, (0, t)), (17, (1, fx))] _ _
                refine hd_lload pkX12_isLessPart rfl rfl ?_
                refine hd_lstore pkX12_isLessPart rfl rfl ?_
                change MW _ _ _ _ _ [(21, (1, r2)), (10, (1, p2)), (8, (1, q)), (12, (1, r2)), (19, (1, fy)), (0, (1, a)), (2, (1, b)), (4, (1, c)), (6, (1, d)), (14, (1, s)), (16, (0, t)), (17, (1, fx))] _ _
                refine hd_lload pkX12_isLessPart rfl rfl ?_
                refine hd_lstore pkX12_isLessPart rfl rfl ?_
                change MW _ _ _ _ _ [(12, (1, s)), (21, (1, r2)), (10, (1, p2)), (8, (1, q)), (19, (1, fy)), (0, (1, a)), (2, (1, b)), (4, (1, c)), (6, (1, d)), (14, (1, s)), (16, (0, t)), (17, (1, fx))] _ _
                refine hd_lload pkX12_isLessPart rfl rfl ?_
                refine hd_lstore pkX12_isLessPart rfl rfl ?_
                change MW _ _ _ _ _ [(14, (1, r2)), (12, (1, s)), (21, (1, r2)), (10, (1, p2)), (8, (1, q)), (19, (1, fy)), (0, (1, a)), (2, (1, b)), (4, (1, c)), (6, (1, d)), (16, (0, t)), (17, (1, fx))] _ _
                have cut113 : ∀ (tz : Int), (0 ≤ tz ∧ tz ≤ 1) → MW KX12_isLessPart Q 0 0 (pcA pgX12_isLessPart 113) [(0, (1, a)), (2, (1, b)), (4, (1, c)), (6, (1, d)), (8, (1, q)), (10, (1, p2)), (12, (1, s)), (14, (1, r2)), (16, (0, t)), (17, (1, fx)), (19, (1, fy)), (21, (1, r2))] [(0, tz)] h := by
                  intro tz tzb
                  refine hd_istore pkX12_isLessPart rfl rfl ?_
                  change MW _ _ _ _ _ [(16, (0, tz)), (0, (1, a)), (2, (1, b)), (4, (1, c)), (6, (1, d)), (8, (1, q)), (10, (1, p2)), (12, (1, s)), (14, (1, r2)), (17, (1, fx)), (19, (1, fy)), (21, (1, r2))] _ _
                  refine hd_goto pkX12_isLessPart rfl ?_
                  refine m_sub [(0, (1, a)), (2, (1, b)), (4, (1, c)), (6, (1, d)), (8, (1, q)), (10, (1, p2)), (12, (1, s)), (14, (1, r2)), (16, (0, tz))] (List.forall_mem_cons.mpr ⟨rfl, List.forall_mem_cons.mpr ⟨rfl, List.forall_mem_cons.mpr ⟨rfl, List.forall_mem_cons.mpr ⟨rfl, List.forall_mem_cons.mpr ⟨rfl, List.forall_mem_cons.mpr ⟨rfl, List.forall_mem_cons.mpr ⟨rfl, List.forall_mem_cons.mpr ⟨rfl, List.forall_mem_cons.mpr ⟨rfl, fun _ h => absurd h List.not_mem_nil⟩⟩⟩⟩⟩⟩⟩⟩⟩) ?_
                  refine ih10  (q) (p2) (s) (r2) (tz) ?_ ?_ ?_ ?_ ?_ ?_
                  · omega
                  · omega
                  · omega
                  · omega
                  · omega
                  · omega
                refine hd_iload pkX12_isLessPart rfl rfl ?_
                refine hd_if_ne pkX12_isLessPart rfl (fun c8 => ?_) (fun c8 => ?_)
                · skip
                  refine hd_ipush (z := 0) pkX12_isLessPart rfl ?_
                  refine m_sub [(0, (1, a)), (2, (1, b)), (4, (1, c)), (6, (1, d)), (8, (1, q)), (10, (1, p2)), (12, (1, s)), (14, (1, r2)), (16, (0, t)), (17, (1, fx)), (19, (1, fy)), (21, (1, r2))] (List.forall_mem_cons.mpr ⟨rfl, List.forall_mem_cons.mpr ⟨rfl, List.forall_mem_cons.mpr ⟨rfl, List.forall_mem_cons.mpr ⟨rfl, List.forall_mem_cons.mpr ⟨rfl, List.forall_mem_cons.mpr ⟨rfl, List.forall_mem_cons.mpr ⟨rfl, List.forall_mem_cons.mpr ⟨rfl, List.forall_mem_cons.mpr ⟨rfl, List.forall_mem_cons.mpr ⟨rfl, List.forall_mem_cons.mpr ⟨rfl, List.forall_mem_cons.mpr ⟨rfl, fun _ h => absurd h List.not_mem_nil⟩⟩⟩⟩⟩⟩⟩⟩⟩⟩⟩⟩) ?_
                  refine cut113 (0) ?_
                  · omega
                · skip
                  refine hd_ipush (z := 1) pkX12_isLessPart rfl ?_
                  refine hd_goto pkX12_isLessPart rfl ?_
                  refine m_sub [(0, (1, a)), (2, (1, b)), (4, (1, c)), (6, (1, d)), (8, (1, q)), (10, (1, p2)), (12, (1, s)), (14, (1, r2)), (16, (0, t)), (17, (1, fx)), (19, (1, fy)), (21, (1, r2))] (List.forall_mem_cons.mpr ⟨rfl, List.forall_mem_cons.mpr ⟨rfl, List.forall_mem_cons.mpr ⟨rfl, List.forall_mem_cons.mpr ⟨rfl, List.forall_mem_cons.mpr ⟨rfl, List.forall_mem_cons.mpr ⟨rfl, List.forall_mem_cons.mpr ⟨rfl, List.forall_mem_cons.mpr ⟨rfl, List.forall_mem_cons.mpr ⟨rfl, List.forall_mem_cons.mpr ⟨rfl, List.forall_mem_cons.mpr ⟨rfl, List.forall_mem_cons.mpr ⟨rfl, fun _ h => absurd h List.not_mem_nil⟩⟩⟩⟩⟩⟩⟩⟩⟩⟩⟩⟩) ?_
                  refine cut113 (1) ?_
                  · omega
              · skip
                refine hd_lload pkX12_isLessPart rfl rfl ?_
                refine hd_lload pkX12_isLessPart rfl rfl ?_
                refine hd_lc_eq pkX12_isLessPart rfl (fun c9 => ?_) (fun c9 => ?_)
                · skip
                  refine hd_ipush (z := 0) pkX12_isLessPart rfl ?_
                  refine hd_zret pkX12_isLessPart rfl (by omega) ?_
                  subst eQ
                  exact ⟨rfl, rfl, by show (0 : Int) = 0 ∨ (0 : Int) = 1; omega, rfl⟩
                · skip
                  refine hd_lload pkX12_isLessPart rfl rfl ?_
                  refine hd_lpush (z := 0) pkX12_isLessPart rfl ?_
                  refine hd_lc_ne pkX12_isLessPart rfl (fun c10 => ?_) (fun c10 => ?_)
                  · skip
                    refine hd_ipush (z := 0) pkX12_isLessPart rfl ?_
                    refine hd_iload pkX12_isLessPart rfl rfl ?_
                    refine hd_ic_eq pkX12_isLessPart rfl (fun c11 => ?_) (fun c11 => ?_)
                    · skip
                      refine hd_ipush (z := 0) pkX12_isLessPart rfl ?_
                      refine hd_zret pkX12_isLessPart rfl (by omega) ?_
                      subst eQ
                      exact ⟨rfl, rfl, by show (0 : Int) = 0 ∨ (0 : Int) = 1; omega, rfl⟩
                    · skip
                      refine hd_ipush (z := 1) pkX12_isLessPart rfl ?_
                      refine hd_goto pkX12_isLessPart rfl ?_
                      refine hd_zret pkX12_isLessPart rfl (by omega) ?_
                      subst eQ
                      exact ⟨rfl, rfl, by show (1 : Int) = 0 ∨ (1 : Int) = 1; omega, rfl⟩
                  · skip
                    refine hd_ipush (z := 1) pkX12_isLessPart rfl ?_
                    refine hd_goto pkX12_isLessPart rfl ?_
                    refine hd_iload pkX12_isLessPart rfl rfl ?_
                    refine hd_ic_eq pkX12_isLessPart rfl (fun c12 => ?_) (fun c12 => ?_)
                    · skip
                      refine hd_ipush (z := 0) pkX12_isLessPart rfl ?_
                      refine hd_zret pkX12_isLessPart rfl (by omega) ?_
                      subst eQ
                      exact ⟨rfl, rfl, by show (0 : Int) = 0 ∨ (0 : Int) = 1; omega, rfl⟩
                    · skip
                      refine hd_ipush (z := 1) pkX12_isLessPart rfl ?_
                      refine hd_goto pkX12_isLessPart rfl ?_
                      refine hd_zret pkX12_isLessPart rfl (by omega) ?_
                      subst eQ
                      exact ⟨rfl, rfl, by show (1 : Int) = 0 ∨ (1 : Int) = 1; omega, rfl⟩
          · skip
            refine hd_lload pkX12_isLessPart rfl rfl ?_
            refine hd_lload pkX12_isLessPart rfl rfl ?_
            refine hd_lc_ge pkX12_isLessPart rfl (fun c13 => ?_) (fun c13 => ?_)
            · skip
              refine hd_ipush (z := 0) pkX12_isLessPart rfl ?_
              refine hd_iload pkX12_isLessPart rfl rfl ?_
              refine hd_ic_eq pkX12_isLessPart rfl (fun c14 => ?_) (fun c14 => ?_)
              · skip
                refine hd_ipush (z := 0) pkX12_isLessPart rfl ?_
                refine hd_zret pkX12_isLessPart rfl (by omega) ?_
                subst eQ
                exact ⟨rfl, rfl, by show (0 : Int) = 0 ∨ (0 : Int) = 1; omega, rfl⟩
              · skip
                refine hd_ipush (z := 1) pkX12_isLessPart rfl ?_
                refine hd_goto pkX12_isLessPart rfl ?_
                refine hd_zret pkX12_isLessPart rfl (by omega) ?_
                subst eQ
                exact ⟨rfl, rfl, by show (1 : Int) = 0 ∨ (1 : Int) = 1; omega, rfl⟩
            · skip
              refine hd_ipush (z := 1) pkX12_isLessPart rfl ?_
              refine hd_goto pkX12_isLessPart rfl ?_
              refine hd_iload pkX12_isLessPart rfl rfl ?_
              refine hd_ic_eq pkX12_isLessPart rfl (fun c15 => ?_) (fun c15 => ?_)
              · skip
                refine hd_ipush (z := 0) pkX12_isLessPart rfl ?_
                refine hd_zret pkX12_isLessPart rfl (by omega) ?_
                subst eQ
                exact ⟨rfl, rfl, by show (0 : Int) = 0 ∨ (0 : Int) = 1; omega, rfl⟩
              · skip
                refine hd_ipush (z := 1) pkX12_isLessPart rfl ?_
                refine hd_goto pkX12_isLessPart rfl ?_
                refine hd_zret pkX12_isLessPart rfl (by omega) ?_
                subst eQ
                exact ⟨rfl, rfl, by show (1 : Int) = 0 ∨ (1 : Int) = 1; omega, rfl⟩
        refine hd_lpush (z := 0) pkX12_isLessPart rfl ?_
        refine hd_lc_ge pkX12_isLessPart rfl (fun c16 => ?_) (fun c16 => ?_)
        · skip
          refine hd_lload pkX12_isLessPart rfl rfl ?_
          refine m_sub [(0, (1, a)), (2, (1, b)), (4, (1, c)), (6, (1, d)), (8, (1, p)), (10, (1, q)), (12, (1, r)), (14, (1, s)), (16, (0, t)), (17, (1, fx)), (19, (1, ya))] (List.forall_mem_cons.mpr ⟨rfl, List.forall_mem_cons.mpr ⟨rfl, List.forall_mem_cons.mpr ⟨rfl, List.forall_mem_cons.mpr ⟨rfl, List.forall_mem_cons.mpr ⟨rfl, List.forall_mem_cons.mpr ⟨rfl, List.forall_mem_cons.mpr ⟨rfl, List.forall_mem_cons.mpr ⟨rfl, List.forall_mem_cons.mpr ⟨rfl, List.forall_mem_cons.mpr ⟨rfl, List.forall_mem_cons.mpr ⟨rfl, fun _ h => absurd h List.not_mem_nil⟩⟩⟩⟩⟩⟩⟩⟩⟩⟩⟩) ?_
          refine cut41 (ya) ?_
          · have f := fl12 (p := r) (q := s) (by omega)
            rw [eya, eyam] at f
            first
              | exact f.1 (by omega)
              | exact f.2.1 (by omega)
        · skip
          refine hd_lload pkX12_isLessPart rfl rfl ?_
          refine hd_lpush (z := 1) pkX12_isLessPart rfl ?_
          refine hd_lsub pkX12_isLessPart rfl (by omega) ?_
          refine hd_goto pkX12_isLessPart rfl ?_
          refine m_sub [(0, (1, a)), (2, (1, b)), (4, (1, c)), (6, (1, d)), (8, (1, p)), (10, (1, q)), (12, (1, r)), (14, (1, s)), (16, (0, t)), (17, (1, fx)), (19, (1, ya))] (List.forall_mem_cons.mpr ⟨rfl, List.forall_mem_cons.mpr ⟨rfl, List.forall_mem_cons.mpr ⟨rfl, List.forall_mem_cons.mpr ⟨rfl, List.forall_mem_cons.mpr ⟨rfl, List.forall_mem_cons.mpr ⟨rfl, List.forall_mem_cons.mpr ⟨rfl, List.forall_mem_cons.mpr ⟨rfl, List.forall_mem_cons.mpr ⟨rfl, List.forall_mem_cons.mpr ⟨rfl, List.forall_mem_cons.mpr ⟨rfl, fun _ h => absurd h List.not_mem_nil⟩⟩⟩⟩⟩⟩⟩⟩⟩⟩⟩) ?_
          refine cut41 ((ya - 1)) ?_
          · have f := fl12 (p := r) (q := s) (by omega)
            rw [eya, eyam] at f
            first
              | exact f.1 (by omega)
              | exact f.2.1 (by omega)
      refine hd_lpush (z := 0) pkX12_isLessPart rfl ?_
      refine hd_lc_ge pkX12_isLessPart rfl (fun c17 => ?_) (fun c17 => ?_)
      · skip
        refine hd_lload pkX12_isLessPart rfl rfl ?_
        refine m_sub [(0, (1, a)), (2, (1, b)), (4, (1, c)), (6, (1, d)), (8, (1, p)), (10, (1, q)), (12, (1, r)), (14, (1, s)), (16, (0, t)), (17, (1, xa))] (List.forall_mem_cons.mpr ⟨rfl, List.forall_mem_cons.mpr ⟨rfl, List.forall_mem_cons.mpr ⟨rfl, List.forall_mem_cons.mpr ⟨rfl, List.forall_mem_cons.mpr ⟨rfl, List.forall_mem_cons.mpr ⟨rfl, List.forall_mem_cons.mpr ⟨rfl, List.forall_mem_cons.mpr ⟨rfl, List.forall_mem_cons.mpr ⟨rfl, List.forall_mem_cons.mpr ⟨rfl, fun _ h => absurd h List.not_mem_nil⟩⟩⟩⟩⟩⟩⟩⟩⟩⟩) ?_
        refine cut25 (xa) ?_
        · have f := fl12 (p := p) (q := q) (by omega)
          rw [exa, exam] at f
          first
            | exact f.1 (by omega)
            | exact f.2.1 (by omega)
      · skip
        refine hd_lload pkX12_isLessPart rfl rfl ?_
        refine hd_lpush (z := 1) pkX12_isLessPart rfl ?_
        refine hd_lsub pkX12_isLessPart rfl (by omega) ?_
        refine hd_goto pkX12_isLessPart rfl ?_
        refine m_sub [(0, (1, a)), (2, (1, b)), (4, (1, c)), (6, (1, d)), (8, (1, p)), (10, (1, q)), (12, (1, r)), (14, (1, s)), (16, (0, t)), (17, (1, xa))] (List.forall_mem_cons.mpr ⟨rfl, List.forall_mem_cons.mpr ⟨rfl, List.forall_mem_cons.mpr ⟨rfl, List.forall_mem_cons.mpr ⟨rfl, List.forall_mem_cons.mpr ⟨rfl, List.forall_mem_cons.mpr ⟨rfl, List.forall_mem_cons.mpr ⟨rfl, List.forall_mem_cons.mpr ⟨rfl, List.forall_mem_cons.mpr ⟨rfl, List.forall_mem_cons.mpr ⟨rfl, fun _ h => absurd h List.not_mem_nil⟩⟩⟩⟩⟩⟩⟩⟩⟩⟩) ?_
        refine cut25 ((xa - 1)) ?_
        · have f := fl12 (p := p) (q := q) (by omega)
          rw [exa, exam] at f
          first
            | exact f.1 (by omega)
            | exact f.2.1 (by omega)
  refine m_sub [(0, (1, a)), (2, (1, b)), (4, (1, c)), (6, (1, d)), (8, (1, a)), (10, (1, b)), (12, (1, c)), (14, (1, d)), (16, (0, 0))] (List.forall_mem_cons.mpr ⟨rfl, List.forall_mem_cons.mpr ⟨rfl, List.forall_mem_cons.mpr ⟨rfl, List.forall_mem_cons.mpr ⟨rfl, List.forall_mem_cons.mpr ⟨rfl, List.forall_mem_cons.mpr ⟨rfl, List.forall_mem_cons.mpr ⟨rfl, List.forall_mem_cons.mpr ⟨rfl, List.forall_mem_cons.mpr ⟨rfl, fun _ h => absurd h List.not_mem_nil⟩⟩⟩⟩⟩⟩⟩⟩⟩) ?_
  refine lp10 (((b)) + 1).toNat (a) (b) (c) (d) (0) ?_ ?_ ?_ ?_ ?_ ?_
  · omega
  · omega
  · omega
  · omega
  · omega
  · omega
