/-! X0 by hand: forces of one end -/
set_option maxRecDepth 20000 in
set_option maxHeartbeats 8000000 in
theorem h_X11_common {h : MH} {a b : Int} (a0 : 0 ≤ a) (b0 : 0 ≤ b)  : MCal KX11_common yX11_common 0 0 [(1, a), (1, b)] h (mRL fun v h' => 1 ≤ v ∧ h' = h) := by
  refine MCal.ofMW (Or.inl rfl) ⟨cp_X11, rfl⟩ (Nat.le_of_ble_eq_true rfl) ?_
  generalize eQ : (mRL fun v h' => 1 ≤ v ∧ h' = h : MO → MH → Prop) = Q
  change MW KX11_common Q 0 0 (pcA pgX11_common 0) [(0, (1, a)), (2, (1, b))] [] h
  refine hd_locL (i := 0) rfl (fun ra => ?_)
  refine hd_locL (i := 2) rfl (fun rb => ?_)
  refine hd_lload pkX11_common rfl rfl ?_
  refine hd_lpush (z := 0) pkX11_common rfl ?_
  refine hd_lc_ge pkX11_common rfl (fun c1 => ?_) (fun c1 => ?_)
  · skip
    refine hd_lload pkX11_common rfl rfl ?_
    refine hd_lstore pkX11_common rfl rfl ?_
    change MW _ _ _ _ _ [(4, (1, a)), (0, (1, a)), (2, (1, b))] _ _
    refine hd_lload pkX11_common rfl rfl ?_
    refine hd_lpush (z := 0) pkX11_common rfl ?_
    refine hd_lc_ge pkX11_common rfl (fun c2 => ?_) (fun c2 => ?_)
    · skip
      refine hd_lload pkX11_common rfl rfl ?_
      refine hd_lstore pkX11_common rfl rfl ?_
      change MW _ _ _ _ _ [(6, (1, b)), (4, (1, a)), (0, (1, a)), (2, (1, b))] _ _
      refine hd_ipush (z := 0) pkX11_common rfl ?_
      refine hd_istore pkX11_common rfl rfl ?_
      change MW _ _ _ _ _ [(8, (0, 0)), (6, (1, b)), (4, (1, a)), (0, (1, a)), (2, (1, b))] _ _
      have lp20 : ∀ (N20 : Nat) (x y k : Int), (0 ≤ x ∧ x ≤ 9223372036854775807) → (0 ≤ y ∧ y ≤ 9223372036854775807) → (0 ≤ k ∧ k ≤ 200) → (200 : Int) - k < (N20 : Int) → MW KX11_common Q 0 0 (pcA pgX11_common 20) [(0, (1, a)), (2, (1, b)), (4, (1, x)), (6, (1, y)), (8, (0, k))] [] h := by
        intro N20
        induction N20 with
        | zero => intro x y k xb yb kb hm20; exfalso; omega
        | succ N20 ih20 =>
          intro x y k xb yb kb hm20
          refine hd_iload pkX11_common rfl rfl ?_
          refine hd_ipush (z := 200) pkX11_common rfl ?_
          refine hd_ic_ge pkX11_common rfl (fun c3 => ?_) (fun c3 => ?_)
          · skip
            refine hd_lload pkX11_common rfl rfl ?_
            refine hd_lpush (z := 0) pkX11_common rfl ?_
            refine hd_lc_ne pkX11_common rfl (fun c4 => ?_) (fun c4 => ?_)
            · skip
              refine hd_lload pkX11_common rfl rfl ?_
              refine hd_lret pkX11_common rfl ?_
              subst eQ
              refine ⟨rfl, rfl, ?_, rfl⟩
              show (1 : Int) ≤ x
              omega
            · skip
              refine hd_lpush (z := 1) pkX11_common rfl ?_
              refine hd_goto pkX11_common rfl ?_
              refine hd_lret pkX11_common rfl ?_
              subst eQ
              refine ⟨rfl, rfl, ?_, rfl⟩
              show (1 : Int) ≤ 1
              omega
          · skip
            refine hd_lload pkX11_common rfl rfl ?_
            refine hd_lpush (z := 0) pkX11_common rfl ?_
            refine hd_lc_eq pkX11_common rfl (fun c5 => ?_) (fun c5 => ?_)
            · skip
              refine hd_lload pkX11_common rfl rfl ?_
              refine hd_lpush (z := 0) pkX11_common rfl ?_
              refine hd_lc_ne pkX11_common rfl (fun c6 => ?_) (fun c6 => ?_)
              · skip
                refine hd_lload pkX11_common rfl rfl ?_
                refine hd_lret pkX11_common rfl ?_
                subst eQ
                refine ⟨rfl, rfl, ?_, rfl⟩
                show (1 : Int) ≤ x
                omega
              · skip
                refine hd_lpush (z := 1) pkX11_common rfl ?_
                refine hd_goto pkX11_common rfl ?_
                refine hd_lret pkX11_common rfl ?_
                subst eQ
                refine ⟨rfl, rfl, ?_, rfl⟩
                show (1 : Int) ≤ 1
                omega
            · skip
              refine hd_lload pkX11_common rfl rfl ?_
              refine hd_lload pkX11_common rfl rfl ?_
              refine hd_lrem pkX11_common rfl (by omega) (by have w := emod_of (x := x) (y := y) (by omega) (by omega); omega) ?_
              generalize ew9 : (Int.tmod x y) = w9
              have w := emod_of (x := x) (y := y) (by omega) (by omega)
              rw [w.1] at ew9
              have w9b : 0 ≤ w9 ∧ w9 < y := by omega
              refine hd_lstore pkX11_common rfl rfl ?_
              change MW _ _ _ _ _ [(9, (1, w9)), (0, (1, a)), (2, (1, b)), (4, (1, x)), (6, (1, y)), (8, (0, k))] _ _
              refine hd_lload pkX11_common rfl rfl ?_
              refine hd_lstore pkX11_common rfl rfl ?_
              change MW _ _ _ _ _ [(4, (1, y)), (9, (1, w9)), (0, (1, a)), (2, (1, b)), (6, (1, y)), (8, (0, k))] _ _
              refine hd_lload pkX11_common rfl rfl ?_
              refine hd_lstore pkX11_common rfl rfl ?_
              change MW _ _ _ _ _ [(6, (1, w9)), (4, (1, y)), (9, (1, w9)), (0, (1, a)), (2, (1, b)), (8, (0, k))] _ _
              refine hd_iinc (z := 1) pkX11_common rfl rfl (by omega) rfl ?_
              change MW _ _ _ _ _ [(8, (0, (k + 1))), (6, (1, w9)), (4, (1, y)), (9, (1, w9)), (0, (1, a)), (2, (1, b))] _ _
              refine hd_goto pkX11_common rfl ?_
              refine m_sub [(0, (1, a)), (2, (1, b)), (4, (1, y)), (6, (1, w9)), (8, (0, (k + 1)))] (List.forall_mem_cons.mpr ⟨rfl, List.forall_mem_cons.mpr ⟨rfl, List.forall_mem_cons.mpr ⟨rfl, List.forall_mem_cons.mpr ⟨rfl, List.forall_mem_cons.mpr ⟨rfl, fun _ h => absurd h List.not_mem_nil⟩⟩⟩⟩⟩) ?_
              refine ih20  (y) (w9) ((k + 1)) ?_ ?_ ?_ ?_
              · omega
              · omega
              · omega
              · omega
      refine m_sub [(0, (1, a)), (2, (1, b)), (4, (1, a)), (6, (1, b)), (8, (0, 0))] (List.forall_mem_cons.mpr ⟨rfl, List.forall_mem_cons.mpr ⟨rfl, List.forall_mem_cons.mpr ⟨rfl, List.forall_mem_cons.mpr ⟨rfl, List.forall_mem_cons.mpr ⟨rfl, fun _ h => absurd h List.not_mem_nil⟩⟩⟩⟩⟩) ?_
      refine lp20 (((200 : Int) - (0)) + 1).toNat (a) (b) (0) ?_ ?_ ?_ ?_
      · omega
      · omega
      · omega
      · omega
    · exfalso
      omega
  · exfalso
    omega
set_option maxRecDepth 20000 in
set_option maxHeartbeats 8000000 in
theorem h_X0_hasStiffEnd {h : MH} {n : Int} (n0 : 0 ≤ n ∧ n ≤ 3) (sz : SZ0 h) (g : StrZ zT h) : MCal KX0_hasStiffEnd yX0_hasStiffEnd 0 0 [(2, ((161 : Nat) : Int)), (0, n)] h (mRI fun v h' => (0 ≤ v ∧ v ≤ 1) ∧ h' = h) := by
  refine MCal.ofMW (Or.inl rfl) ⟨cp_X0, rfl⟩ (Nat.le_of_ble_eq_true rfl) ?_
  generalize eQ : (mRI fun v h' => (0 ≤ v ∧ v ≤ 1) ∧ h' = h : MO → MH → Prop) = Q
  change MW KX0_hasStiffEnd Q 0 0 (pcA pgX0_hasStiffEnd 0) [(0, (2, ((161 : Nat) : Int))), (1, (0, n))] [] h
  refine hd_locI (i := 1) rfl (fun rn => ?_)
  have nb := sz.1
  refine hd_iload pkX0_hasStiffEnd rfl rfl ?_
  refine hd_aload pkX0_hasStiffEnd rfl rfl (Int.natCast_nonneg _) ?_
  refine hd_getI pkX0_hasStiffEnd rfl (st_cell g (k := 16) (n := 0) (by decide +kernel)).1 (st_cell g (k := 16) (n := 0) (by decide +kernel)).2.1 (fun v1 ev1 rv1 => ?_)
  replace ev1 : v1 = ga h 161 0 := ev1
  refine hd_ic_ge pkX0_hasStiffEnd rfl (fun c2 => ?_) (fun c2 => ?_)
  · skip
    refine hd_iload pkX0_hasStiffEnd rfl rfl ?_
    refine hd_if_le pkX0_hasStiffEnd rfl (fun c3 => ?_) (fun c3 => ?_)
    · skip
      refine hd_ipush (z := 0) pkX0_hasStiffEnd rfl ?_
      refine hd_zret pkX0_hasStiffEnd rfl (by omega) ?_
      subst eQ
      refine ⟨rfl, rfl, ?_, rfl⟩
      show (0 : Int) ≤ 0 ∧ (0 : Int) ≤ 1
      omega
    · skip
      refine hd_aload pkX0_hasStiffEnd rfl rfl (Int.natCast_nonneg _) ?_
      refine hd_getR (n := 166) pkX0_hasStiffEnd rfl (st_cell g (k := 16) (n := 0) (by decide +kernel)).1 (st_cell g (k := 16) (n := 0) (by decide +kernel)).2.1 (st_ref g (by decide +kernel)) ?_
      refine hd_ipush (z := 2) pkX0_hasStiffEnd rfl ?_
      refine hd_iload pkX0_hasStiffEnd rfl rfl ?_
      refine hd_imul pkX0_hasStiffEnd rfl (by omega) ?_
      refine hd_ipush (z := 1) pkX0_hasStiffEnd rfl ?_
      refine hd_isub pkX0_hasStiffEnd rfl (by omega) ?_
      refine hd_zald (n := 6) pkX0_hasStiffEnd rfl (st_cell g (c := 166) (k := 2) (n := 6) (by decide +kernel)) (by omega) (by omega) (fun v4 ev4 rv4 => ?_)
      refine hd_if_ne pkX0_hasStiffEnd rfl (fun c5 => ?_) (fun c5 => ?_)
      · skip
        refine hd_ipush (z := 0) pkX0_hasStiffEnd rfl ?_
        refine hd_zret pkX0_hasStiffEnd rfl (by omega) ?_
        subst eQ
        refine ⟨rfl, rfl, ?_, rfl⟩
        show (0 : Int) ≤ 0 ∧ (0 : Int) ≤ 1
        omega
      · skip
        refine hd_ipush (z := 1) pkX0_hasStiffEnd rfl ?_
        refine hd_goto pkX0_hasStiffEnd rfl ?_
        refine hd_zret pkX0_hasStiffEnd rfl (by omega) ?_
        subst eQ
        refine ⟨rfl, rfl, ?_, rfl⟩
        show (0 : Int) ≤ 1 ∧ (1 : Int) ≤ 1
        omega
  · skip
    refine hd_aload pkX0_hasStiffEnd rfl rfl (Int.natCast_nonneg _) ?_
    refine hd_getR (n := 166) pkX0_hasStiffEnd rfl (st_cell g (k := 16) (n := 0) (by decide +kernel)).1 (st_cell g (k := 16) (n := 0) (by decide +kernel)).2.1 (st_ref g (by decide +kernel)) ?_
    refine hd_ipush (z := 2) pkX0_hasStiffEnd rfl ?_
    refine hd_iload pkX0_hasStiffEnd rfl rfl ?_
    refine hd_imul pkX0_hasStiffEnd rfl (by omega) ?_
    refine hd_zald (n := 6) pkX0_hasStiffEnd rfl (st_cell g (c := 166) (k := 2) (n := 6) (by decide +kernel)) (by omega) (by omega) (fun v6 ev6 rv6 => ?_)
    refine hd_if_eq pkX0_hasStiffEnd rfl (fun c7 => ?_) (fun c7 => ?_)
    · skip
      refine hd_ipush (z := 1) pkX0_hasStiffEnd rfl ?_
      refine hd_goto pkX0_hasStiffEnd rfl ?_
      refine hd_zret pkX0_hasStiffEnd rfl (by omega) ?_
      subst eQ
      refine ⟨rfl, rfl, ?_, rfl⟩
      show (0 : Int) ≤ 1 ∧ (1 : Int) ≤ 1
      omega
    · skip
      refine hd_iload pkX0_hasStiffEnd rfl rfl ?_
      refine hd_if_le pkX0_hasStiffEnd rfl (fun c8 => ?_) (fun c8 => ?_)
      · skip
        refine hd_ipush (z := 0) pkX0_hasStiffEnd rfl ?_
        refine hd_zret pkX0_hasStiffEnd rfl (by omega) ?_
        subst eQ
        refine ⟨rfl, rfl, ?_, rfl⟩
        show (0 : Int) ≤ 0 ∧ (0 : Int) ≤ 1
        omega
      · skip
        refine hd_aload pkX0_hasStiffEnd rfl rfl (Int.natCast_nonneg _) ?_
        refine hd_getR (n := 166) pkX0_hasStiffEnd rfl (st_cell g (k := 16) (n := 0) (by decide +kernel)).1 (st_cell g (k := 16) (n := 0) (by decide +kernel)).2.1 (st_ref g (by decide +kernel)) ?_
        refine hd_ipush (z := 2) pkX0_hasStiffEnd rfl ?_
        refine hd_iload pkX0_hasStiffEnd rfl rfl ?_
        refine hd_imul pkX0_hasStiffEnd rfl (by omega) ?_
        refine hd_ipush (z := 1) pkX0_hasStiffEnd rfl ?_
        refine hd_isub pkX0_hasStiffEnd rfl (by omega) ?_
        refine hd_zald (n := 6) pkX0_hasStiffEnd rfl (st_cell g (c := 166) (k := 2) (n := 6) (by decide +kernel)) (by omega) (by omega) (fun v9 ev9 rv9 => ?_)
        refine hd_if_ne pkX0_hasStiffEnd rfl (fun c10 => ?_) (fun c10 => ?_)
        · skip
          refine hd_ipush (z := 0) pkX0_hasStiffEnd rfl ?_
          refine hd_zret pkX0_hasStiffEnd rfl (by omega) ?_
          subst eQ
          refine ⟨rfl, rfl, ?_, rfl⟩
          show (0 : Int) ≤ 0 ∧ (0 : Int) ≤ 1
          omega
        · skip
          refine hd_ipush (z := 1) pkX0_hasStiffEnd rfl ?_
          refine hd_goto pkX0_hasStiffEnd rfl ?_
          refine hd_zret pkX0_hasStiffEnd rfl (by omega) ?_
          subst eQ
          refine ⟨rfl, rfl, ?_, rfl⟩
          show (0 : Int) ≤ 1 ∧ (1 : Int) ≤ 1
          omega
set_option maxRecDepth 20000 in
set_option maxHeartbeats 8000000 in
theorem h_X0_shearShare0 {h : MH} {b : Int} (b0 : 0 ≤ b ∧ b < 3) (sz : SZ0 h) (g : StrZ zT h) : MCal KX0_shearShare yX0_shearShare 0 0 [(2, ((161 : Nat) : Int)), (0, b), (0, 0)] h (mRI fun v h' => (-12 ≤ v ∧ v ≤ 12) ∧ h' = h) := by
  refine MCal.ofMW (Or.inl rfl) ⟨cp_X0, rfl⟩ (Nat.le_of_ble_eq_true rfl) ?_
  generalize eQ : (mRI fun v h' => (-12 ≤ v ∧ v ≤ 12) ∧ h' = h : MO → MH → Prop) = Q
  change MW KX0_shearShare Q 0 0 (pcA pgX0_shearShare 0) [(0, (2, ((161 : Nat) : Int))), (1, (0, b)), (2, (0, 0))] [] h
  refine hd_locI (i := 1) rfl (fun rb => ?_)
  refine hd_aload pkX0_shearShare rfl rfl (Int.natCast_nonneg _) ?_
  refine hd_getR (n := 166) pkX0_shearShare rfl (st_cell g (k := 16) (n := 0) (by decide +kernel)).1 (st_cell g (k := 16) (n := 0) (by decide +kernel)).2.1 (st_ref g (by decide +kernel)) ?_
  refine hd_ipush (z := 2) pkX0_shearShare rfl ?_
  refine hd_iload pkX0_shearShare rfl rfl ?_
  refine hd_imul pkX0_shearShare rfl (by omega) ?_
  refine hd_zald (n := 6) pkX0_shearShare rfl (st_cell g (c := 166) (k := 2) (n := 6) (by decide +kernel)) (by omega) (by omega) (fun v1 ev1 rv1 => ?_)
  have cut10 : ∀ (lf : Int), (0 ≤ lf ∧ lf ≤ 1) → MW KX0_shearShare Q 0 0 (pcA pgX0_shearShare 10) [(0, (2, ((161 : Nat) : Int))), (1, (0, b)), (2, (0, 0))] [(0, lf)] h := by
    intro lf lfb
    refine hd_istore pkX0_shearShare rfl rfl ?_
    change MW _ _ _ _ _ [(3, (0, lf)), (0, (2, ((161 : Nat) : Int))), (1, (0, b)), (2, (0, 0))] _ _
    refine hd_aload pkX0_shearShare rfl rfl (Int.natCast_nonneg _) ?_
    refine hd_getR (n := 166) pkX0_shearShare rfl (st_cell g (k := 16) (n := 0) (by decide +kernel)).1 (st_cell g (k := 16) (n := 0) (by decide +kernel)).2.1 (st_ref g (by decide +kernel)) ?_
    refine hd_ipush (z := 2) pkX0_shearShare rfl ?_
    refine hd_iload pkX0_shearShare rfl rfl ?_
    refine hd_imul pkX0_shearShare rfl (by omega) ?_
    refine hd_ipush (z := 1) pkX0_shearShare rfl ?_
    refine hd_iadd pkX0_shearShare rfl (by omega) ?_
    refine hd_zald (n := 6) pkX0_shearShare rfl (st_cell g (c := 166) (k := 2) (n := 6) (by decide +kernel)) (by omega) (by omega) (fun v2 ev2 rv2 => ?_)
    have cut23 : ∀ (rt : Int), (0 ≤ rt ∧ rt ≤ 1) → MW KX0_shearShare Q 0 0 (pcA pgX0_shearShare 23) [(0, (2, ((161 : Nat) : Int))), (1, (0, b)), (2, (0, 0)), (3, (0, lf))] [(0, rt)] h := by
      intro rt rtb
      refine hd_istore pkX0_shearShare rfl rfl ?_
      change MW _ _ _ _ _ [(4, (0, rt)), (0, (2, ((161 : Nat) : Int))), (1, (0, b)), (2, (0, 0)), (3, (0, lf))] _ _
      refine hd_iload pkX0_shearShare rfl rfl ?_
      have cut29 : ∀ (a : Int), (0 ≤ a ∧ a ≤ 1) → MW KX0_shearShare Q 0 0 (pcA pgX0_shearShare 29) [(0, (2, ((161 : Nat) : Int))), (1, (0, b)), (2, (0, 0)), (3, (0, lf)), (4, (0, rt))] [(0, a)] h := by
        intro a ab
        refine hd_iload pkX0_shearShare rfl rfl ?_
        have cut34 : ∀ (b9 : Int), (0 ≤ b9 ∧ b9 ≤ 1) → MW KX0_shearShare Q 0 0 (pcA pgX0_shearShare 34) [(0, (2, ((161 : Nat) : Int))), (1, (0, b)), (2, (0, 0)), (3, (0, lf)), (4, (0, rt))] [(0, b9), (0, a)] h := by
          intro b9 bb
          refine hd_iadd pkX0_shearShare rfl (by omega) ?_
          refine hd_istore pkX0_shearShare rfl rfl ?_
          change MW _ _ _ _ _ [(5, (0, (a + b9))), (0, (2, ((161 : Nat) : Int))), (1, (0, b)), (2, (0, 0)), (3, (0, lf)), (4, (0, rt))] _ _
          refine hd_iload pkX0_shearShare rfl rfl ?_
          refine hd_sw (lo := 0) (t := 38) pkX0_shearShare rfl rfl rfl (by decide) ?_
          refine hd_iload pkX0_shearShare rfl rfl ?_
          refine hd_iret pkX0_shearShare rfl ?_
          subst eQ
          refine ⟨rfl, rfl, ?_, rfl⟩
          show (-12 : Int) ≤ (a + b9) ∧ ((a + b9) : Int) ≤ 12
          omega
        refine hd_if_eq pkX0_shearShare rfl (fun c3 => ?_) (fun c3 => ?_)
        · skip
          refine hd_ipush (z := 0) pkX0_shearShare rfl ?_
          refine cut34 (0) ?_
          · omega
        · skip
          refine hd_ipush (z := 1) pkX0_shearShare rfl ?_
          refine hd_goto pkX0_shearShare rfl ?_
          refine cut34 (1) ?_
          · omega
      refine hd_if_eq pkX0_shearShare rfl (fun c4 => ?_) (fun c4 => ?_)
      · skip
        refine hd_ipush (z := 0) pkX0_shearShare rfl ?_
        refine m_sub [(0, (2, ((161 : Nat) : Int))), (1, (0, b)), (2, (0, 0)), (3, (0, lf)), (4, (0, rt))] (List.forall_mem_cons.mpr ⟨rfl, List.forall_mem_cons.mpr ⟨rfl, List.forall_mem_cons.mpr ⟨rfl, List.forall_mem_cons.mpr ⟨rfl, List.forall_mem_cons.mpr ⟨rfl, fun _ h => absurd h List.not_mem_nil⟩⟩⟩⟩⟩) ?_
        refine cut29 (0) ?_
        · omega
      · skip
        refine hd_ipush (z := 1) pkX0_shearShare rfl ?_
        refine hd_goto pkX0_shearShare rfl ?_
        refine m_sub [(0, (2, ((161 : Nat) : Int))), (1, (0, b)), (2, (0, 0)), (3, (0, lf)), (4, (0, rt))] (List.forall_mem_cons.mpr ⟨rfl, List.forall_mem_cons.mpr ⟨rfl, List.forall_mem_cons.mpr ⟨rfl, List.forall_mem_cons.mpr ⟨rfl, List.forall_mem_cons.mpr ⟨rfl, fun _ h => absurd h List.not_mem_nil⟩⟩⟩⟩⟩) ?_
        refine cut29 (1) ?_
        · omega
    refine hd_if_ne pkX0_shearShare rfl (fun c5 => ?_) (fun c5 => ?_)
    · skip
      refine hd_ipush (z := 0) pkX0_shearShare rfl ?_
      refine m_sub [(0, (2, ((161 : Nat) : Int))), (1, (0, b)), (2, (0, 0)), (3, (0, lf))] (List.forall_mem_cons.mpr ⟨rfl, List.forall_mem_cons.mpr ⟨rfl, List.forall_mem_cons.mpr ⟨rfl, List.forall_mem_cons.mpr ⟨rfl, fun _ h => absurd h List.not_mem_nil⟩⟩⟩⟩) ?_
      refine cut23 (0) ?_
      · omega
    · skip
      refine hd_ipush (z := 1) pkX0_shearShare rfl ?_
      refine hd_goto pkX0_shearShare rfl ?_
      refine m_sub [(0, (2, ((161 : Nat) : Int))), (1, (0, b)), (2, (0, 0)), (3, (0, lf))] (List.forall_mem_cons.mpr ⟨rfl, List.forall_mem_cons.mpr ⟨rfl, List.forall_mem_cons.mpr ⟨rfl, List.forall_mem_cons.mpr ⟨rfl, fun _ h => absurd h List.not_mem_nil⟩⟩⟩⟩) ?_
      refine cut23 (1) ?_
      · omega
  refine hd_if_ne pkX0_shearShare rfl (fun c6 => ?_) (fun c6 => ?_)
  · skip
    refine hd_ipush (z := 0) pkX0_shearShare rfl ?_
    refine cut10 (0) ?_
    · omega
  · skip
    refine hd_ipush (z := 1) pkX0_shearShare rfl ?_
    refine hd_goto pkX0_shearShare rfl ?_
    refine cut10 (1) ?_
    · omega
set_option maxRecDepth 20000 in
set_option maxHeartbeats 8000000 in
theorem h_X0_shearShare1 {h : MH} {b : Int} (b0 : 0 ≤ b ∧ b < 3) (sz : SZ0 h) (g : StrZ zT h) : MCal KX0_shearShare yX0_shearShare 0 0 [(2, ((161 : Nat) : Int)), (0, b), (0, 1)] h (mRI fun v h' => (-12 ≤ v ∧ v ≤ 12) ∧ h' = h) := by
  refine MCal.ofMW (Or.inl rfl) ⟨cp_X0, rfl⟩ (Nat.le_of_ble_eq_true rfl) ?_
  generalize eQ : (mRI fun v h' => (-12 ≤ v ∧ v ≤ 12) ∧ h' = h : MO → MH → Prop) = Q
  change MW KX0_shearShare Q 0 0 (pcA pgX0_shearShare 0) [(0, (2, ((161 : Nat) : Int))), (1, (0, b)), (2, (0, 1))] [] h
  refine hd_locI (i := 1) rfl (fun rb => ?_)
  refine hd_aload pkX0_shearShare rfl rfl (Int.natCast_nonneg _) ?_
  refine hd_getR (n := 166) pkX0_shearShare rfl (st_cell g (k := 16) (n := 0) (by decide +kernel)).1 (st_cell g (k := 16) (n := 0) (by decide +kernel)).2.1 (st_ref g (by decide +kernel)) ?_
  refine hd_ipush (z := 2) pkX0_shearShare rfl ?_
  refine hd_iload pkX0_shearShare rfl rfl ?_
  refine hd_imul pkX0_shearShare rfl (by omega) ?_
  refine hd_zald (n := 6) pkX0_shearShare rfl (st_cell g (c := 166) (k := 2) (n := 6) (by decide +kernel)) (by omega) (by omega) (fun v1 ev1 rv1 => ?_)
  have cut10 : ∀ (lf : Int), (0 ≤ lf ∧ lf ≤ 1) → MW KX0_shearShare Q 0 0 (pcA pgX0_shearShare 10) [(0, (2, ((161 : Nat) : Int))), (1, (0, b)), (2, (0, 1))] [(0, lf)] h := by
    intro lf lfb
    refine hd_istore pkX0_shearShare rfl rfl ?_
    change MW _ _ _ _ _ [(3, (0, lf)), (0, (2, ((161 : Nat) : Int))), (1, (0, b)), (2, (0, 1))] _ _
    refine hd_aload pkX0_shearShare rfl rfl (Int.natCast_nonneg _) ?_
    refine hd_getR (n := 166) pkX0_shearShare rfl (st_cell g (k := 16) (n := 0) (by decide +kernel)).1 (st_cell g (k := 16) (n := 0) (by decide +kernel)).2.1 (st_ref g (by decide +kernel)) ?_
    refine hd_ipush (z := 2) pkX0_shearShare rfl ?_
    refine hd_iload pkX0_shearShare rfl rfl ?_
    refine hd_imul pkX0_shearShare rfl (by omega) ?_
    refine hd_ipush (z := 1) pkX0_shearShare rfl ?_
    refine hd_iadd pkX0_shearShare rfl (by omega) ?_
    refine hd_zald (n := 6) pkX0_shearShare rfl (st_cell g (c := 166) (k := 2) (n := 6) (by decide +kernel)) (by omega) (by omega) (fun v2 ev2 rv2 => ?_)
    have cut23 : ∀ (rt : Int), (0 ≤ rt ∧ rt ≤ 1) → MW KX0_shearShare Q 0 0 (pcA pgX0_shearShare 23) [(0, (2, ((161 : Nat) : Int))), (1, (0, b)), (2, (0, 1)), (3, (0, lf))] [(0, rt)] h := by
      intro rt rtb
      refine hd_istore pkX0_shearShare rfl rfl ?_
      change MW _ _ _ _ _ [(4, (0, rt)), (0, (2, ((161 : Nat) : Int))), (1, (0, b)), (2, (0, 1)), (3, (0, lf))] _ _
      refine hd_iload pkX0_shearShare rfl rfl ?_
      have cut29 : ∀ (a : Int), (0 ≤ a ∧ a ≤ 1) → MW KX0_shearShare Q 0 0 (pcA pgX0_shearShare 29) [(0, (2, ((161 : Nat) : Int))), (1, (0, b)), (2, (0, 1)), (3, (0, lf)), (4, (0, rt))] [(0, a)] h := by
        intro a ab
        refine hd_iload pkX0_shearShare rfl rfl ?_
        have cut34 : ∀ (b9 : Int), (0 ≤ b9 ∧ b9 ≤ 1) → MW KX0_shearShare Q 0 0 (pcA pgX0_shearShare 34) [(0, (2, ((161 : Nat) : Int))), (1, (0, b)), (2, (0, 1)), (3, (0, lf)), (4, (0, rt))] [(0, b9), (0, a)] h := by
          intro b9 bb
          refine hd_iadd pkX0_shearShare rfl (by omega) ?_
          refine hd_istore pkX0_shearShare rfl rfl ?_
          change MW _ _ _ _ _ [(5, (0, (a + b9))), (0, (2, ((161 : Nat) : Int))), (1, (0, b)), (2, (0, 1)), (3, (0, lf)), (4, (0, rt))] _ _
          refine hd_iload pkX0_shearShare rfl rfl ?_
          refine hd_sw (lo := 0) (t := 40) pkX0_shearShare rfl rfl rfl (by decide) ?_
          refine hd_iload pkX0_shearShare rfl rfl ?_
          refine hd_if_eq pkX0_shearShare rfl (fun c3 => ?_) (fun c3 => ?_)
          · skip
            refine hd_ipush (z := 0) pkX0_shearShare rfl ?_
            refine hd_iret pkX0_shearShare rfl ?_
            subst eQ
            refine ⟨rfl, rfl, ?_, rfl⟩
            show (-12 : Int) ≤ 0 ∧ (0 : Int) ≤ 12
            omega
          · skip
            refine hd_aload pkX0_shearShare rfl rfl (Int.natCast_nonneg _) ?_
            refine hd_getR (n := 162) pkX0_shearShare rfl (st_cell g (k := 16) (n := 0) (by decide +kernel)).1 (st_cell g (k := 16) (n := 0) (by decide +kernel)).2.1 (st_ref g (by decide +kernel)) ?_
            refine hd_iload pkX0_shearShare rfl rfl ?_
            refine hd_aldR (n := 3) pkX0_shearShare rfl (st_cell g (c := 162) (k := 6) (n := 3) (by decide +kernel)) (Or.inl rfl) (by omega) (by omega) (fun v4 ev4 => ?_)
            rw [st_size g ⟨by omega, by omega⟩] at ev4
            subst v4
            refine hd_ipush (z := 0) pkX0_shearShare rfl ?_
            refine hd_iald (n := 2) pkX0_shearShare rfl (sR_cell g ⟨by omega, by omega⟩) (by omega) (by omega) (fun v5 ev5 rv5 => ?_)
            have zb := (sz.2 b b0.1 b0.2).1
            rw [← ev5] at zb
            refine hd_goto pkX0_shearShare rfl ?_
            refine hd_iret pkX0_shearShare rfl ?_
            subst eQ
            refine ⟨rfl, rfl, ?_, rfl⟩
            show (-12 : Int) ≤ v5 ∧ (v5 : Int) ≤ 12
            omega
        refine hd_if_eq pkX0_shearShare rfl (fun c6 => ?_) (fun c6 => ?_)
        · skip
          refine hd_ipush (z := 0) pkX0_shearShare rfl ?_
          refine cut34 (0) ?_
          · omega
        · skip
          refine hd_ipush (z := 1) pkX0_shearShare rfl ?_
          refine hd_goto pkX0_shearShare rfl ?_
          refine cut34 (1) ?_
          · omega
      refine hd_if_eq pkX0_shearShare rfl (fun c7 => ?_) (fun c7 => ?_)
      · skip
        refine hd_ipush (z := 0) pkX0_shearShare rfl ?_
        refine m_sub [(0, (2, ((161 : Nat) : Int))), (1, (0, b)), (2, (0, 1)), (3, (0, lf)), (4, (0, rt))] (List.forall_mem_cons.mpr ⟨rfl, List.forall_mem_cons.mpr ⟨rfl, List.forall_mem_cons.mpr ⟨rfl, List.forall_mem_cons.mpr ⟨rfl, List.forall_mem_cons.mpr ⟨rfl, fun _ h => absurd h List.not_mem_nil⟩⟩⟩⟩⟩) ?_
        refine cut29 (0) ?_
        · omega
      · skip
        refine hd_ipush (z := 1) pkX0_shearShare rfl ?_
        refine hd_goto pkX0_shearShare rfl ?_
        refine m_sub [(0, (2, ((161 : Nat) : Int))), (1, (0, b)), (2, (0, 1)), (3, (0, lf)), (4, (0, rt))] (List.forall_mem_cons.mpr ⟨rfl, List.forall_mem_cons.mpr ⟨rfl, List.forall_mem_cons.mpr ⟨rfl, List.forall_mem_cons.mpr ⟨rfl, List.forall_mem_cons.mpr ⟨rfl, fun _ h => absurd h List.not_mem_nil⟩⟩⟩⟩⟩) ?_
        refine cut29 (1) ?_
        · omega
    refine hd_if_ne pkX0_shearShare rfl (fun c8 => ?_) (fun c8 => ?_)
    · skip
      refine hd_ipush (z := 0) pkX0_shearShare rfl ?_
      refine m_sub [(0, (2, ((161 : Nat) : Int))), (1, (0, b)), (2, (0, 1)), (3, (0, lf))] (List.forall_mem_cons.mpr ⟨rfl, List.forall_mem_cons.mpr ⟨rfl, List.forall_mem_cons.mpr ⟨rfl, List.forall_mem_cons.mpr ⟨rfl, fun _ h => absurd h List.not_mem_nil⟩⟩⟩⟩) ?_
      refine cut23 (0) ?_
      · omega
    · skip
      refine hd_ipush (z := 1) pkX0_shearShare rfl ?_
      refine hd_goto pkX0_shearShare rfl ?_
      refine m_sub [(0, (2, ((161 : Nat) : Int))), (1, (0, b)), (2, (0, 1)), (3, (0, lf))] (List.forall_mem_cons.mpr ⟨rfl, List.forall_mem_cons.mpr ⟨rfl, List.forall_mem_cons.mpr ⟨rfl, List.forall_mem_cons.mpr ⟨rfl, fun _ h => absurd h List.not_mem_nil⟩⟩⟩⟩) ?_
      refine cut23 (1) ?_
      · omega
  refine hd_if_ne pkX0_shearShare rfl (fun c9 => ?_) (fun c9 => ?_)
  · skip
    refine hd_ipush (z := 0) pkX0_shearShare rfl ?_
    refine cut10 (0) ?_
    · omega
  · skip
    refine hd_ipush (z := 1) pkX0_shearShare rfl ?_
    refine hd_goto pkX0_shearShare rfl ?_
    refine cut10 (1) ?_
    · omega
set_option maxRecDepth 20000 in
set_option maxHeartbeats 8000000 in
theorem h_X0_shearShare2 {h : MH} {b : Int} (b0 : 0 ≤ b ∧ b < 3) (sz : SZ0 h) (g : StrZ zT h) : MCal KX0_shearShare yX0_shearShare 0 0 [(2, ((161 : Nat) : Int)), (0, b), (0, 2)] h (mRI fun v h' => (-12 ≤ v ∧ v ≤ 12) ∧ h' = h) := by
  refine MCal.ofMW (Or.inl rfl) ⟨cp_X0, rfl⟩ (Nat.le_of_ble_eq_true rfl) ?_
  generalize eQ : (mRI fun v h' => (-12 ≤ v ∧ v ≤ 12) ∧ h' = h : MO → MH → Prop) = Q
  change MW KX0_shearShare Q 0 0 (pcA pgX0_shearShare 0) [(0, (2, ((161 : Nat) : Int))), (1, (0, b)), (2, (0, 2))] [] h
  refine hd_locI (i := 1) rfl (fun rb => ?_)
  refine hd_aload pkX0_shearShare rfl rfl (Int.natCast_nonneg _) ?_
  refine hd_getR (n := 166) pkX0_shearShare rfl (st_cell g (k := 16) (n := 0) (by decide +kernel)).1 (st_cell g (k := 16) (n := 0) (by decide +kernel)).2.1 (st_ref g (by decide +kernel)) ?_
  refine hd_ipush (z := 2) pkX0_shearShare rfl ?_
  refine hd_iload pkX0_shearShare rfl rfl ?_
  refine hd_imul pkX0_shearShare rfl (by omega) ?_
  refine hd_zald (n := 6) pkX0_shearShare rfl (st_cell g (c := 166) (k := 2) (n := 6) (by decide +kernel)) (by omega) (by omega) (fun v1 ev1 rv1 => ?_)
  have cut10 : ∀ (lf : Int), (0 ≤ lf ∧ lf ≤ 1) → MW KX0_shearShare Q 0 0 (pcA pgX0_shearShare 10) [(0, (2, ((161 : Nat) : Int))), (1, (0, b)), (2, (0, 2))] [(0, lf)] h := by
    intro lf lfb
    refine hd_istore pkX0_shearShare rfl rfl ?_
    change MW _ _ _ _ _ [(3, (0, lf)), (0, (2, ((161 : Nat) : Int))), (1, (0, b)), (2, (0, 2))] _ _
    refine hd_aload pkX0_shearShare rfl rfl (Int.natCast_nonneg _) ?_
    refine hd_getR (n := 166) pkX0_shearShare rfl (st_cell g (k := 16) (n := 0) (by decide +kernel)).1 (st_cell g (k := 16) (n := 0) (by decide +kernel)).2.1 (st_ref g (by decide +kernel)) ?_
    refine hd_ipush (z := 2) pkX0_shearShare rfl ?_
    refine hd_iload pkX0_shearShare rfl rfl ?_
    refine hd_imul pkX0_shearShare rfl (by omega) ?_
    refine hd_ipush (z := 1) pkX0_shearShare rfl ?_
    refine hd_iadd pkX0_shearShare rfl (by omega) ?_
    refine hd_zald (n := 6) pkX0_shearShare rfl (st_cell g (c := 166) (k := 2) (n := 6) (by decide +kernel)) (by omega) (by omega) (fun v2 ev2 rv2 => ?_)
    have cut23 : ∀ (rt : Int), (0 ≤ rt ∧ rt ≤ 1) → MW KX0_shearShare Q 0 0 (pcA pgX0_shearShare 23) [(0, (2, ((161 : Nat) : Int))), (1, (0, b)), (2, (0, 2)), (3, (0, lf))] [(0, rt)] h := by
      intro rt rtb
      refine hd_istore pkX0_shearShare rfl rfl ?_
      change MW _ _ _ _ _ [(4, (0, rt)), (0, (2, ((161 : Nat) : Int))), (1, (0, b)), (2, (0, 2)), (3, (0, lf))] _ _
      refine hd_iload pkX0_shearShare rfl rfl ?_
      have cut29 : ∀ (a : Int), (0 ≤ a ∧ a ≤ 1) → MW KX0_shearShare Q 0 0 (pcA pgX0_shearShare 29) [(0, (2, ((161 : Nat) : Int))), (1, (0, b)), (2, (0, 2)), (3, (0, lf)), (4, (0, rt))] [(0, a)] h := by
        intro a ab
        refine hd_iload pkX0_shearShare rfl rfl ?_
        have cut34 : ∀ (b9 : Int), (0 ≤ b9 ∧ b9 ≤ 1) → MW KX0_shearShare Q 0 0 (pcA pgX0_shearShare 34) [(0, (2, ((161 : Nat) : Int))), (1, (0, b)), (2, (0, 2)), (3, (0, lf)), (4, (0, rt))] [(0, b9), (0, a)] h := by
          intro b9 bb
          refine hd_iadd pkX0_shearShare rfl (by omega) ?_
          refine hd_istore pkX0_shearShare rfl rfl ?_
          change MW _ _ _ _ _ [(5, (0, (a + b9))), (0, (2, ((161 : Nat) : Int))), (1, (0, b)), (2, (0, 2)), (3, (0, lf)), (4, (0, rt))] _ _
          refine hd_iload pkX0_shearShare rfl rfl ?_
          refine hd_sw (lo := 0) (t := 51) pkX0_shearShare rfl rfl rfl (by decide) ?_
          refine hd_iload pkX0_shearShare rfl rfl ?_
          refine hd_ineg pkX0_shearShare rfl (by omega) ?_
          refine hd_iret pkX0_shearShare rfl ?_
          subst eQ
          refine ⟨rfl, rfl, ?_, rfl⟩
          show (-12 : Int) ≤ (-(a + b9)) ∧ ((-(a + b9)) : Int) ≤ 12
          omega
        refine hd_if_eq pkX0_shearShare rfl (fun c3 => ?_) (fun c3 => ?_)
        · skip
          refine hd_ipush (z := 0) pkX0_shearShare rfl ?_
          refine cut34 (0) ?_
          · omega
        · skip
          refine hd_ipush (z := 1) pkX0_shearShare rfl ?_
          refine hd_goto pkX0_shearShare rfl ?_
          refine cut34 (1) ?_
          · omega
      refine hd_if_eq pkX0_shearShare rfl (fun c4 => ?_) (fun c4 => ?_)
      · skip
        refine hd_ipush (z := 0) pkX0_shearShare rfl ?_
        refine m_sub [(0, (2, ((161 : Nat) : Int))), (1, (0, b)), (2, (0, 2)), (3, (0, lf)), (4, (0, rt))] (List.forall_mem_cons.mpr ⟨rfl, List.forall_mem_cons.mpr ⟨rfl, List.forall_mem_cons.mpr ⟨rfl, List.forall_mem_cons.mpr ⟨rfl, List.forall_mem_cons.mpr ⟨rfl, fun _ h => absurd h List.not_mem_nil⟩⟩⟩⟩⟩) ?_
        refine cut29 (0) ?_
        · omega
      · skip
        refine hd_ipush (z := 1) pkX0_shearShare rfl ?_
        refine hd_goto pkX0_shearShare rfl ?_
        refine m_sub [(0, (2, ((161 : Nat) : Int))), (1, (0, b)), (2, (0, 2)), (3, (0, lf)), (4, (0, rt))] (List.forall_mem_cons.mpr ⟨rfl, List.forall_mem_cons.mpr ⟨rfl, List.forall_mem_cons.mpr ⟨rfl, List.forall_mem_cons.mpr ⟨rfl, List.forall_mem_cons.mpr ⟨rfl, fun _ h => absurd h List.not_mem_nil⟩⟩⟩⟩⟩) ?_
        refine cut29 (1) ?_
        · omega
    refine hd_if_ne pkX0_shearShare rfl (fun c5 => ?_) (fun c5 => ?_)
    · skip
      refine hd_ipush (z := 0) pkX0_shearShare rfl ?_
      refine m_sub [(0, (2, ((161 : Nat) : Int))), (1, (0, b)), (2, (0, 2)), (3, (0, lf))] (List.forall_mem_cons.mpr ⟨rfl, List.forall_mem_cons.mpr ⟨rfl, List.forall_mem_cons.mpr ⟨rfl, List.forall_mem_cons.mpr ⟨rfl, fun _ h => absurd h List.not_mem_nil⟩⟩⟩⟩) ?_
      refine cut23 (0) ?_
      · omega
    · skip
      refine hd_ipush (z := 1) pkX0_shearShare rfl ?_
      refine hd_goto pkX0_shearShare rfl ?_
      refine m_sub [(0, (2, ((161 : Nat) : Int))), (1, (0, b)), (2, (0, 2)), (3, (0, lf))] (List.forall_mem_cons.mpr ⟨rfl, List.forall_mem_cons.mpr ⟨rfl, List.forall_mem_cons.mpr ⟨rfl, List.forall_mem_cons.mpr ⟨rfl, fun _ h => absurd h List.not_mem_nil⟩⟩⟩⟩) ?_
      refine cut23 (1) ?_
      · omega
  refine hd_if_ne pkX0_shearShare rfl (fun c6 => ?_) (fun c6 => ?_)
  · skip
    refine hd_ipush (z := 0) pkX0_shearShare rfl ?_
    refine cut10 (0) ?_
    · omega
  · skip
    refine hd_ipush (z := 1) pkX0_shearShare rfl ?_
    refine hd_goto pkX0_shearShare rfl ?_
    refine cut10 (1) ?_
    · omega
set_option maxRecDepth 20000 in
set_option maxHeartbeats 8000000 in
theorem h_X0_shearShare3 {h : MH} {b : Int} (b0 : 0 ≤ b ∧ b < 3) (sz : SZ0 h) (g : StrZ zT h) : MCal KX0_shearShare yX0_shearShare 0 0 [(2, ((161 : Nat) : Int)), (0, b), (0, 3)] h (mRI fun v h' => (-12 ≤ v ∧ v ≤ 12) ∧ h' = h) := by
  refine MCal.ofMW (Or.inl rfl) ⟨cp_X0, rfl⟩ (Nat.le_of_ble_eq_true rfl) ?_
  generalize eQ : (mRI fun v h' => (-12 ≤ v ∧ v ≤ 12) ∧ h' = h : MO → MH → Prop) = Q
  change MW KX0_shearShare Q 0 0 (pcA pgX0_shearShare 0) [(0, (2, ((161 : Nat) : Int))), (1, (0, b)), (2, (0, 3))] [] h
  refine hd_locI (i := 1) rfl (fun rb => ?_)
  refine hd_aload pkX0_shearShare rfl rfl (Int.natCast_nonneg _) ?_
  refine hd_getR (n := 166) pkX0_shearShare rfl (st_cell g (k := 16) (n := 0) (by decide +kernel)).1 (st_cell g (k := 16) (n := 0) (by decide +kernel)).2.1 (st_ref g (by decide +kernel)) ?_
  refine hd_ipush (z := 2) pkX0_shearShare rfl ?_
  refine hd_iload pkX0_shearShare rfl rfl ?_
  refine hd_imul pkX0_shearShare rfl (by omega) ?_
  refine hd_zald (n := 6) pkX0_shearShare rfl (st_cell g (c := 166) (k := 2) (n := 6) (by decide +kernel)) (by omega) (by omega) (fun v1 ev1 rv1 => ?_)
  have cut10 : ∀ (lf : Int), (0 ≤ lf ∧ lf ≤ 1) → MW KX0_shearShare Q 0 0 (pcA pgX0_shearShare 10) [(0, (2, ((161 : Nat) : Int))), (1, (0, b)), (2, (0, 3))] [(0, lf)] h := by
    intro lf lfb
    refine hd_istore pkX0_shearShare rfl rfl ?_
    change MW _ _ _ _ _ [(3, (0, lf)), (0, (2, ((161 : Nat) : Int))), (1, (0, b)), (2, (0, 3))] _ _
    refine hd_aload pkX0_shearShare rfl rfl (Int.natCast_nonneg _) ?_
    refine hd_getR (n := 166) pkX0_shearShare rfl (st_cell g (k := 16) (n := 0) (by decide +kernel)).1 (st_cell g (k := 16) (n := 0) (by decide +kernel)).2.1 (st_ref g (by decide +kernel)) ?_
    refine hd_ipush (z := 2) pkX0_shearShare rfl ?_
    refine hd_iload pkX0_shearShare rfl rfl ?_
    refine hd_imul pkX0_shearShare rfl (by omega) ?_
    refine hd_ipush (z := 1) pkX0_shearShare rfl ?_
    refine hd_iadd pkX0_shearShare rfl (by omega) ?_
    refine hd_zald (n := 6) pkX0_shearShare rfl (st_cell g (c := 166) (k := 2) (n := 6) (by decide +kernel)) (by omega) (by omega) (fun v2 ev2 rv2 => ?_)
    have cut23 : ∀ (rt : Int), (0 ≤ rt ∧ rt ≤ 1) → MW KX0_shearShare Q 0 0 (pcA pgX0_shearShare 23) [(0, (2, ((161 : Nat) : Int))), (1, (0, b)), (2, (0, 3)), (3, (0, lf))] [(0, rt)] h := by
      intro rt rtb
      refine hd_istore pkX0_shearShare rfl rfl ?_
      change MW _ _ _ _ _ [(4, (0, rt)), (0, (2, ((161 : Nat) : Int))), (1, (0, b)), (2, (0, 3)), (3, (0, lf))] _ _
      refine hd_iload pkX0_shearShare rfl rfl ?_
      have cut29 : ∀ (a : Int), (0 ≤ a ∧ a ≤ 1) → MW KX0_shearShare Q 0 0 (pcA pgX0_shearShare 29) [(0, (2, ((161 : Nat) : Int))), (1, (0, b)), (2, (0, 3)), (3, (0, lf)), (4, (0, rt))] [(0, a)] h := by
        intro a ab
        refine hd_iload pkX0_shearShare rfl rfl ?_
        have cut34 : ∀ (b9 : Int), (0 ≤ b9 ∧ b9 ≤ 1) → MW KX0_shearShare Q 0 0 (pcA pgX0_shearShare 34) [(0, (2, ((161 : Nat) : Int))), (1, (0, b)), (2, (0, 3)), (3, (0, lf)), (4, (0, rt))] [(0, b9), (0, a)] h := by
          intro b9 bb
          refine hd_iadd pkX0_shearShare rfl (by omega) ?_
          refine hd_istore pkX0_shearShare rfl rfl ?_
          change MW _ _ _ _ _ [(5, (0, (a + b9))), (0, (2, ((161 : Nat) : Int))), (1, (0, b)), (2, (0, 3)), (3, (0, lf)), (4, (0, rt))] _ _
          refine hd_iload pkX0_shearShare rfl rfl ?_
          refine hd_swD (lo := 0) pkX0_shearShare rfl rfl rfl ?_
          refine hd_iload pkX0_shearShare rfl rfl ?_
          refine hd_if_eq pkX0_shearShare rfl (fun c3 => ?_) (fun c3 => ?_)
          · skip
            refine hd_ipush (z := 0) pkX0_shearShare rfl ?_
            refine hd_iret pkX0_shearShare rfl ?_
            subst eQ
            refine ⟨rfl, rfl, ?_, rfl⟩
            show (-12 : Int) ≤ 0 ∧ (0 : Int) ≤ 12
            omega
          · skip
            refine hd_aload pkX0_shearShare rfl rfl (Int.natCast_nonneg _) ?_
            refine hd_getR (n := 162) pkX0_shearShare rfl (st_cell g (k := 16) (n := 0) (by decide +kernel)).1 (st_cell g (k := 16) (n := 0) (by decide +kernel)).2.1 (st_ref g (by decide +kernel)) ?_
            refine hd_iload pkX0_shearShare rfl rfl ?_
            refine hd_aldR (n := 3) pkX0_shearShare rfl (st_cell g (c := 162) (k := 6) (n := 3) (by decide +kernel)) (Or.inl rfl) (by omega) (by omega) (fun v4 ev4 => ?_)
            rw [st_size g ⟨by omega, by omega⟩] at ev4
            subst v4
            refine hd_ipush (z := 0) pkX0_shearShare rfl ?_
            refine hd_iald (n := 2) pkX0_shearShare rfl (sR_cell g ⟨by omega, by omega⟩) (by omega) (by omega) (fun v5 ev5 rv5 => ?_)
            have zb := (sz.2 b b0.1 b0.2).1
            rw [← ev5] at zb
            refine hd_goto pkX0_shearShare rfl ?_
            refine hd_iret pkX0_shearShare rfl ?_
            subst eQ
            refine ⟨rfl, rfl, ?_, rfl⟩
            show (-12 : Int) ≤ v5 ∧ (v5 : Int) ≤ 12
            omega
        refine hd_if_eq pkX0_shearShare rfl (fun c6 => ?_) (fun c6 => ?_)
        · skip
          refine hd_ipush (z := 0) pkX0_shearShare rfl ?_
          refine cut34 (0) ?_
          · omega
        · skip
          refine hd_ipush (z := 1) pkX0_shearShare rfl ?_
          refine hd_goto pkX0_shearShare rfl ?_
          refine cut34 (1) ?_
          · omega
      refine hd_if_eq pkX0_shearShare rfl (fun c7 => ?_) (fun c7 => ?_)
      · skip
        refine hd_ipush (z := 0) pkX0_shearShare rfl ?_
        refine m_sub [(0, (2, ((161 : Nat) : Int))), (1, (0, b)), (2, (0, 3)), (3, (0, lf)), (4, (0, rt))] (List.forall_mem_cons.mpr ⟨rfl, List.forall_mem_cons.mpr ⟨rfl, List.forall_mem_cons.mpr ⟨rfl, List.forall_mem_cons.mpr ⟨rfl, List.forall_mem_cons.mpr ⟨rfl, fun _ h => absurd h List.not_mem_nil⟩⟩⟩⟩⟩) ?_
        refine cut29 (0) ?_
        · omega
      · skip
        refine hd_ipush (z := 1) pkX0_shearShare rfl ?_
        refine hd_goto pkX0_shearShare rfl ?_
        refine m_sub [(0, (2, ((161 : Nat) : Int))), (1, (0, b)), (2, (0, 3)), (3, (0, lf)), (4, (0, rt))] (List.forall_mem_cons.mpr ⟨rfl, List.forall_mem_cons.mpr ⟨rfl, List.forall_mem_cons.mpr ⟨rfl, List.forall_mem_cons.mpr ⟨rfl, List.forall_mem_cons.mpr ⟨rfl, fun _ h => absurd h List.not_mem_nil⟩⟩⟩⟩⟩) ?_
        refine cut29 (1) ?_
        · omega
    refine hd_if_ne pkX0_shearShare rfl (fun c8 => ?_) (fun c8 => ?_)
    · skip
      refine hd_ipush (z := 0) pkX0_shearShare rfl ?_
      refine m_sub [(0, (2, ((161 : Nat) : Int))), (1, (0, b)), (2, (0, 3)), (3, (0, lf))] (List.forall_mem_cons.mpr ⟨rfl, List.forall_mem_cons.mpr ⟨rfl, List.forall_mem_cons.mpr ⟨rfl, List.forall_mem_cons.mpr ⟨rfl, fun _ h => absurd h List.not_mem_nil⟩⟩⟩⟩) ?_
      refine cut23 (0) ?_
      · omega
    · skip
      refine hd_ipush (z := 1) pkX0_shearShare rfl ?_
      refine hd_goto pkX0_shearShare rfl ?_
      refine m_sub [(0, (2, ((161 : Nat) : Int))), (1, (0, b)), (2, (0, 3)), (3, (0, lf))] (List.forall_mem_cons.mpr ⟨rfl, List.forall_mem_cons.mpr ⟨rfl, List.forall_mem_cons.mpr ⟨rfl, List.forall_mem_cons.mpr ⟨rfl, fun _ h => absurd h List.not_mem_nil⟩⟩⟩⟩) ?_
      refine cut23 (1) ?_
      · omega
  refine hd_if_ne pkX0_shearShare rfl (fun c9 => ?_) (fun c9 => ?_)
  · skip
    refine hd_ipush (z := 0) pkX0_shearShare rfl ?_
    refine cut10 (0) ?_
    · omega
  · skip
    refine hd_ipush (z := 1) pkX0_shearShare rfl ?_
    refine hd_goto pkX0_shearShare rfl ?_
    refine cut10 (1) ?_
    · omega
theorem h_X0_shearShare {h : MH} {b e : Int} (b0 : 0 ≤ b ∧ b < 3) (e0 : 0 ≤ e ∧ e < 4) (sz : SZ0 h) (g : StrZ zT h) : MCal KX0_shearShare yX0_shearShare 0 0 [(2, ((161 : Nat) : Int)), (0, b), (0, e)] h (mRI fun v h' => (-12 ≤ v ∧ v ≤ 12) ∧ h' = h) := by
  rcases (show e = 0 ∨ e = 1 ∨ e = 2 ∨ e = 3 by omega) with rfl | rfl | rfl | rfl
  · exact h_X0_shearShare0 b0 sz g
  · exact h_X0_shearShare1 b0 sz g
  · exact h_X0_shearShare2 b0 sz g
  · exact h_X0_shearShare3 b0 sz g
set_option maxRecDepth 20000 in
set_option maxHeartbeats 8000000 in
theorem h_X0_endForce {h : MH} {b r c : Int} (b0 : 0 ≤ b ∧ b < 3) (r0 : 0 ≤ r ∧ r < 4) (c0 : 0 ≤ c ∧ c < 4) (sz : SZ0 h) (g : StrZ zT h) : MCal KX0_endForce yX0_endForce 0 0 [(2, ((161 : Nat) : Int)), (0, b), (0, r), (0, c)] h (mRI fun v h' => (-576 ≤ v ∧ v ≤ 576) ∧ h' = h) := by
  refine MCal.ofMW (Or.inl rfl) ⟨cp_X0, rfl⟩ (Nat.le_of_ble_eq_true rfl) ?_
  generalize eQ : (mRI fun v h' => (-576 ≤ v ∧ v ≤ 576) ∧ h' = h : MO → MH → Prop) = Q
  change MW KX0_endForce Q 0 0 (pcA pgX0_endForce 0) [(0, (2, ((161 : Nat) : Int))), (1, (0, b)), (2, (0, r)), (3, (0, c))] [] h
  refine hd_locI (i := 1) rfl (fun rb => ?_)
  refine hd_locI (i := 2) rfl (fun rr => ?_)
  refine hd_locI (i := 3) rfl (fun rc => ?_)
  refine hd_ipush (z := 3) pkX0_endForce rfl ?_
  refine hd_aload pkX0_endForce rfl rfl (Int.natCast_nonneg _) ?_
  refine hd_iload pkX0_endForce rfl rfl ?_
  refine hd_iload pkX0_endForce rfl rfl ?_
  refine hd_callV pkX0_endForce rfl (q := (KX0_shearShare, yX0_shearShare, 0, 2, 0)) rfl rfl rfl (As := [(0, b), (0, r)]) (rest := [(0, 3)]) (c := 161) rfl rfl (Nat.le_of_ble_eq_true rfl) (st_cell g (k := 16) (n := 0) (by decide +kernel)).1 (st_cell g (k := 16) (n := 0) (by decide +kernel)).2.1 (h_X0_shearShare b0 r0 sz g) (hd_bI (fun x hc1 px => ?_))
  obtain ⟨px, ehc1⟩ := px
  replace ehc1 := ehc1.symm
  subst ehc1
  refine hd_imul pkX0_endForce rfl (by omega) ?_
  refine hd_aload pkX0_endForce rfl rfl (Int.natCast_nonneg _) ?_
  refine hd_iload pkX0_endForce rfl rfl ?_
  refine hd_iload pkX0_endForce rfl rfl ?_
  refine hd_callV pkX0_endForce rfl (q := (KX0_shearShare, yX0_shearShare, 0, 2, 0)) rfl rfl rfl (As := [(0, b), (0, c)]) (rest := [(0, (3 * x))]) (c := 161) rfl rfl (Nat.le_of_ble_eq_true rfl) (st_cell g (k := 16) (n := 0) (by decide +kernel)).1 (st_cell g (k := 16) (n := 0) (by decide +kernel)).2.1 (h_X0_shearShare b0 c0 sz g) (hd_bI (fun y hc2 py => ?_))
  obtain ⟨py, ehc2⟩ := py
  replace ehc2 := ehc2.symm
  subst ehc2
  refine hd_imul pkX0_endForce rfl (by have q := mul_ab (x := 3 * x) (y := y) (a := 36) (b := 12) ⟨by omega, by omega⟩ py; omega) ?_
  generalize ebt : ((3 * x) * y) = bt
  have q := mul_ab (x := 3 * x) (y := y) (a := 36) (b := 12) ⟨by omega, by omega⟩ py
  rw [ebt] at q
  refine hd_istore pkX0_endForce rfl rfl ?_
  change MW _ _ _ _ _ [(4, (0, bt)), (0, (2, ((161 : Nat) : Int))), (1, (0, b)), (2, (0, r)), (3, (0, c))] _ _
  refine hd_iload pkX0_endForce rfl rfl ?_
  refine hd_ipush (z := 2) pkX0_endForce rfl ?_
  refine hd_irem pkX0_endForce rfl (by decide) (by have w := emod_of (x := r) (y := 2) (by omega) (by omega); omega) ?_
  refine hd_if_eq pkX0_endForce rfl (fun c3 => ?_) (fun c3 => ?_)
  · skip
    refine hd_iload pkX0_endForce rfl rfl ?_
    refine hd_iret pkX0_endForce rfl ?_
    subst eQ
    refine ⟨rfl, rfl, ?_, rfl⟩
    show (-576 : Int) ≤ bt ∧ (bt : Int) ≤ 576
    omega
  · skip
    refine hd_iload pkX0_endForce rfl rfl ?_
    refine hd_ipush (z := 2) pkX0_endForce rfl ?_
    refine hd_irem pkX0_endForce rfl (by decide) (by have w := emod_of (x := c) (y := 2) (by omega) (by omega); omega) ?_
    refine hd_if_eq pkX0_endForce rfl (fun c4 => ?_) (fun c4 => ?_)
    · skip
      refine hd_iload pkX0_endForce rfl rfl ?_
      refine hd_iret pkX0_endForce rfl ?_
      subst eQ
      refine ⟨rfl, rfl, ?_, rfl⟩
      show (-576 : Int) ≤ bt ∧ (bt : Int) ≤ 576
      omega
    · skip
      refine hd_aload pkX0_endForce rfl rfl (Int.natCast_nonneg _) ?_
      refine hd_getR (n := 166) pkX0_endForce rfl (st_cell g (k := 16) (n := 0) (by decide +kernel)).1 (st_cell g (k := 16) (n := 0) (by decide +kernel)).2.1 (st_ref g (by decide +kernel)) ?_
      refine hd_ipush (z := 2) pkX0_endForce rfl ?_
      refine hd_iload pkX0_endForce rfl rfl ?_
      refine hd_imul pkX0_endForce rfl (by omega) ?_
      refine hd_zald (n := 6) pkX0_endForce rfl (st_cell g (c := 166) (k := 2) (n := 6) (by decide +kernel)) (by omega) (by omega) (fun v5 ev5 rv5 => ?_)
      refine hd_if_ne pkX0_endForce rfl (fun c6 => ?_) (fun c6 => ?_)
      · skip
        refine hd_iload pkX0_endForce rfl rfl ?_
        refine hd_iret pkX0_endForce rfl ?_
        subst eQ
        refine ⟨rfl, rfl, ?_, rfl⟩
        show (-576 : Int) ≤ bt ∧ (bt : Int) ≤ 576
        omega
      · skip
        refine hd_aload pkX0_endForce rfl rfl (Int.natCast_nonneg _) ?_
        refine hd_getR (n := 166) pkX0_endForce rfl (st_cell g (k := 16) (n := 0) (by decide +kernel)).1 (st_cell g (k := 16) (n := 0) (by decide +kernel)).2.1 (st_ref g (by decide +kernel)) ?_
        refine hd_ipush (z := 2) pkX0_endForce rfl ?_
        refine hd_iload pkX0_endForce rfl rfl ?_
        refine hd_imul pkX0_endForce rfl (by omega) ?_
        refine hd_ipush (z := 1) pkX0_endForce rfl ?_
        refine hd_iadd pkX0_endForce rfl (by omega) ?_
        refine hd_zald (n := 6) pkX0_endForce rfl (st_cell g (c := 166) (k := 2) (n := 6) (by decide +kernel)) (by omega) (by omega) (fun v7 ev7 rv7 => ?_)
        refine hd_if_eq pkX0_endForce rfl (fun c8 => ?_) (fun c8 => ?_)
        · skip
          refine hd_iload pkX0_endForce rfl rfl ?_
          refine hd_iload pkX0_endForce rfl rfl ?_
          refine hd_iload pkX0_endForce rfl rfl ?_
          have cut45 : ∀ (sg : Int), (sg = 1 ∨ sg = -1) → MW KX0_endForce Q 0 0 (pcA pgX0_endForce 45) [(0, (2, ((161 : Nat) : Int))), (1, (0, b)), (2, (0, r)), (3, (0, c)), (4, (0, bt))] [(0, sg), (0, bt)] h := by
            intro sg sgb
            refine hd_aload pkX0_endForce rfl rfl (Int.natCast_nonneg _) ?_
            refine hd_getR (n := 162) pkX0_endForce rfl (st_cell g (k := 16) (n := 0) (by decide +kernel)).1 (st_cell g (k := 16) (n := 0) (by decide +kernel)).2.1 (st_ref g (by decide +kernel)) ?_
            refine hd_iload pkX0_endForce rfl rfl ?_
            refine hd_aldR (n := 3) pkX0_endForce rfl (st_cell g (c := 162) (k := 6) (n := 3) (by decide +kernel)) (Or.inl rfl) (by omega) (by omega) (fun v9 ev9 => ?_)
            rw [st_size g ⟨by omega, by omega⟩] at ev9
            subst v9
            refine hd_ipush (z := 0) pkX0_endForce rfl ?_
            refine hd_iald (n := 2) pkX0_endForce rfl (sR_cell g ⟨by omega, by omega⟩) (by omega) (by omega) (fun v10 ev10 rv10 => ?_)
            have zv10 := (sz.2 b b0.1 b0.2).1
            rw [← ev10] at zv10
            refine hd_imul pkX0_endForce rfl (by rcases sgb with w | w <;> rw [w] <;> omega) ?_
            generalize eu1 : (sg * v10) = u1
            have ub : -12 ≤ u1 ∧ u1 ≤ 12 := by rcases sgb with w | w <;> rw [w] at eu1 <;> omega
            refine hd_aload pkX0_endForce rfl rfl (Int.natCast_nonneg _) ?_
            refine hd_getR (n := 162) pkX0_endForce rfl (st_cell g (k := 16) (n := 0) (by decide +kernel)).1 (st_cell g (k := 16) (n := 0) (by decide +kernel)).2.1 (st_ref g (by decide +kernel)) ?_
            refine hd_iload pkX0_endForce rfl rfl ?_
            refine hd_aldR (n := 3) pkX0_endForce rfl (st_cell g (c := 162) (k := 6) (n := 3) (by decide +kernel)) (Or.inl rfl) (by omega) (by omega) (fun v11 ev11 => ?_)
            rw [st_size g ⟨by omega, by omega⟩] at ev11
            subst v11
            refine hd_ipush (z := 0) pkX0_endForce rfl ?_
            refine hd_iald (n := 2) pkX0_endForce rfl (sR_cell g ⟨by omega, by omega⟩) (by omega) (by omega) (fun v12 ev12 rv12 => ?_)
            have zv12 := (sz.2 b b0.1 b0.2).1
            rw [← ev12] at zv12
            have q2 := mul_ab (x := u1) (y := v12) (a := 12) (b := 12) ub ⟨by omega, by omega⟩
            refine hd_imul pkX0_endForce rfl (by omega) ?_
            generalize eu2 : (u1 * v12) = u2
            rw [eu2] at q2
            refine hd_iadd pkX0_endForce rfl (by omega) ?_
            refine hd_iret pkX0_endForce rfl ?_
            subst eQ
            refine ⟨rfl, rfl, ?_, rfl⟩
            show (-576 : Int) ≤ (bt + u2) ∧ ((bt + u2) : Int) ≤ 576
            omega
          refine hd_ic_ne pkX0_endForce rfl (fun c13 => ?_) (fun c13 => ?_)
          · skip
            refine hd_ipush (z := (-1)) pkX0_endForce rfl ?_
            refine m_sub [(0, (2, ((161 : Nat) : Int))), (1, (0, b)), (2, (0, r)), (3, (0, c)), (4, (0, bt))] (List.forall_mem_cons.mpr ⟨rfl, List.forall_mem_cons.mpr ⟨rfl, List.forall_mem_cons.mpr ⟨rfl, List.forall_mem_cons.mpr ⟨rfl, List.forall_mem_cons.mpr ⟨rfl, fun _ h => absurd h List.not_mem_nil⟩⟩⟩⟩⟩) ?_
            refine cut45 ((-1)) ?_
            · omega
          · skip
            refine hd_ipush (z := 1) pkX0_endForce rfl ?_
            refine hd_goto pkX0_endForce rfl ?_
            refine m_sub [(0, (2, ((161 : Nat) : Int))), (1, (0, b)), (2, (0, r)), (3, (0, c)), (4, (0, bt))] (List.forall_mem_cons.mpr ⟨rfl, List.forall_mem_cons.mpr ⟨rfl, List.forall_mem_cons.mpr ⟨rfl, List.forall_mem_cons.mpr ⟨rfl, List.forall_mem_cons.mpr ⟨rfl, fun _ h => absurd h List.not_mem_nil⟩⟩⟩⟩⟩) ?_
            refine cut45 (1) ?_
            · omega
        · skip
          refine hd_iload pkX0_endForce rfl rfl ?_
          refine hd_iret pkX0_endForce rfl ?_
          subst eQ
          refine ⟨rfl, rfl, ?_, rfl⟩
          show (-576 : Int) ≤ bt ∧ (bt : Int) ≤ 576
          omega
