set_option maxRecDepth 20000 in
set_option maxHeartbeats 8000000 in
theorem h_X14_solve {h : MH} {M : Int} (j4 : J4 h M) (g : Str t14 r14 h) : MCal KX14_solve yX14_solve 0 0 [(2, ((2495 : Nat) : Int))] h (mRI fun v h' => (-1 ≤ v ∧ v ≤ 4) ∧ Rk h h' M) := by
  refine MCal.ofMW (Or.inl rfl) ⟨cp_X14, rfl⟩ (Nat.le_of_ble_eq_true rfl) ?_
  generalize eQ : (mRI fun v h' => (-1 ≤ v ∧ v ≤ 4) ∧ Rk h h' M : MO → MH → Prop) = Q
  change MW KX14_solve Q 0 0 (pcA pgX14_solve 0) [(0, (2, ((2495 : Nat) : Int)))] [] h
  have hM := j4.1.1
  refine hd_aload pkX14_solve rfl rfl (Int.natCast_nonneg _) ?_
  refine hd_ipush (z := 0) pkX14_solve rfl ?_
  refine hd_putI pkX14_solve rfl (g.cell 0 rfl).1 (g.cell 0 rfl).2.1 (fun hh1 ehh1 => ?_)
  have ghh1 : Str t14 r14 hh1 := by rw [ehh1]; exact g.setF rfl
  have rk := Rk.fault j4 ehh1
  refine hd_ipush (z := 0) pkX14_solve rfl ?_
  refine hd_istore pkX14_solve rfl rfl ?_
  change MW _ _ _ _ _ [(1, (0, 0)), (0, (2, ((2495 : Nat) : Int)))] _ _
  refine hd_aload pkX14_solve rfl rfl (Int.natCast_nonneg _) ?_
  refine hd_callV pkX14_solve rfl (q := (KX14_isFirm, yX14_isFirm, 14, 0, 0)) rfl rfl rfl (As := []) (rest := []) (c := 2495) rfl rfl (Nat.le_of_ble_eq_true rfl) (ghh1.cell 0 rfl).1 (ghh1.cell 0 rfl).2.1 (h_X14_isFirm rk.j ghh1) (hd_bI (fun fw hc2 pf => ?_))
  have ghc2 : Str t14 r14 hc2 := ghh1.rk pf.2.1
  have rk := rk.trans pf.2.1
  have sv := pf.2.2.2.1
  refine hd_istore pkX14_solve rfl rfl ?_
  change MW _ _ _ _ _ [(2, (0, fw)), (1, (0, 0)), (0, (2, ((2495 : Nat) : Int)))] _ _
  refine hd_ipush (z := 0) pkX14_solve rfl ?_
  refine hd_istore pkX14_solve rfl rfl ?_
  change MW _ _ _ _ _ [(3, (0, 0)), (2, (0, fw)), (1, (0, 0)), (0, (2, ((2495 : Nat) : Int)))] _ _
  have lp10 : ∀ (N10 : Nat) (mn nd : Int) (hl : MH), Str t14 r14 hl → (Rk h hl M) → (Sv4 hl M) → (0 ≤ nd ∧ nd ≤ M + 1) → (0 ≤ mn ∧ mn ≤ nd) → M + 1 - nd < (N10 : Int) → MW KX14_solve Q 0 0 (pcA pgX14_solve 10) [(0, (2, ((2495 : Nat) : Int))), (1, (0, mn)), (2, (0, fw)), (3, (0, nd))] [] hl := by
    intro N10
    induction N10 with
    | zero => intro mn nd hl g10 rk sv nb mb hm10; exfalso; omega
    | succ N10 ih10 =>
      intro mn nd hl g10 rk sv nb mb hm10
      refine hd_iload pkX14_solve rfl rfl ?_
      refine hd_aload pkX14_solve rfl rfl (Int.natCast_nonneg _) ?_
      refine hd_getI pkX14_solve rfl (g10.cell 0 rfl).1 (g10.cell 0 rfl).2.1 (fun v3 ev3 rv3 => ?_)
      have qv3 : M = v3 := by rw [ev3]; exact rk.j.1.2.1.symm
      subst qv3
      refine hd_ic_gt pkX14_solve rfl (fun c4 => ?_) (fun c4 => ?_)
      · skip
        refine hd_iload pkX14_solve rfl rfl ?_
        refine hd_iret pkX14_solve rfl ?_
        subst eQ
        refine ⟨rfl, rfl, ?_, rk⟩
        show -1 ≤ mn ∧ mn ≤ 4
        omega
      · skip
        refine hd_iload pkX14_solve rfl rfl ?_
        refine hd_if_ne pkX14_solve rfl (fun c5 => ?_) (fun c5 => ?_)
        · skip
          refine hd_iload pkX14_solve rfl rfl ?_
          refine hd_iret pkX14_solve rfl ?_
          subst eQ
          refine ⟨rfl, rfl, ?_, rk⟩
          show -1 ≤ mn ∧ mn ≤ 4
          omega
        · skip
          refine hd_iload pkX14_solve rfl rfl ?_
          refine hd_aload pkX14_solve rfl rfl (Int.natCast_nonneg _) ?_
          refine hd_iload pkX14_solve rfl rfl ?_
          obtain ⟨T, lk⟩ := sv.ls rk.j.1.1
          refine hd_callV pkX14_solve rfl (q := (KX14_isLoose, yX14_isLoose, 14, 1, 0)) rfl rfl rfl (As := [(0, nd)]) (rest := [(0, mn)]) (c := 2495) rfl rfl (Nat.le_of_ble_eq_true rfl) (g10.cell 0 rfl).1 (g10.cell 0 rfl).2.1 (h_X14_isLoose rk.j.1 lk ⟨by omega, by omega⟩ g10) (hd_bI (fun w6 hc7 pl => ?_))
          have ghc7 : Str t14 r14 hc7 := g10.only pl.2.1 (by decide)
          have rk := rk.trans (Rk.ch rk.j pl.2 (by decide))
          have sv := sv.ch pl.2 (by decide)
          refine hd_if_eq pkX14_solve rfl (fun c8 => ?_) (fun c8 => ?_)
          · skip
            refine hd_ipush (z := 0) pkX14_solve rfl ?_
            refine hd_iadd pkX14_solve rfl (by omega) ?_
            refine hd_istore pkX14_solve rfl rfl ?_
            change MW _ _ _ _ _ [(1, (0, (mn + 0))), (0, (2, ((2495 : Nat) : Int))), (2, (0, fw)), (3, (0, nd))] _ _
            refine hd_iinc (z := 1) pkX14_solve rfl rfl (by omega) rfl ?_
            change MW _ _ _ _ _ [(3, (0, (nd + 1))), (1, (0, (mn + 0))), (0, (2, ((2495 : Nat) : Int))), (2, (0, fw))] _ _
            refine hd_goto pkX14_solve rfl ?_
            refine m_sub [(0, (2, ((2495 : Nat) : Int))), (1, (0, (mn + 0))), (2, (0, fw)), (3, (0, (nd + 1)))] (List.forall_mem_cons.mpr ⟨rfl, List.forall_mem_cons.mpr ⟨rfl, List.forall_mem_cons.mpr ⟨rfl, List.forall_mem_cons.mpr ⟨rfl, fun _ h => absurd h List.not_mem_nil⟩⟩⟩⟩) ?_
            refine ih10  ((mn + 0)) ((nd + 1)) hc7 ghc7 ?_ ?_ ?_ ?_ ?_
            · exact rk
            · exact sv
            · omega
            · omega
            · omega
          · skip
            refine hd_ipush (z := 1) pkX14_solve rfl ?_
            refine hd_goto pkX14_solve rfl ?_
            refine hd_iadd pkX14_solve rfl (by omega) ?_
            refine hd_istore pkX14_solve rfl rfl ?_
            change MW _ _ _ _ _ [(1, (0, (mn + 1))), (0, (2, ((2495 : Nat) : Int))), (2, (0, fw)), (3, (0, nd))] _ _
            refine hd_iinc (z := 1) pkX14_solve rfl rfl (by omega) rfl ?_
            change MW _ _ _ _ _ [(3, (0, (nd + 1))), (1, (0, (mn + 1))), (0, (2, ((2495 : Nat) : Int))), (2, (0, fw))] _ _
            refine hd_goto pkX14_solve rfl ?_
            refine m_sub [(0, (2, ((2495 : Nat) : Int))), (1, (0, (mn + 1))), (2, (0, fw)), (3, (0, (nd + 1)))] (List.forall_mem_cons.mpr ⟨rfl, List.forall_mem_cons.mpr ⟨rfl, List.forall_mem_cons.mpr ⟨rfl, List.forall_mem_cons.mpr ⟨rfl, fun _ h => absurd h List.not_mem_nil⟩⟩⟩⟩) ?_
            refine ih10  ((mn + 1)) ((nd + 1)) hc7 ghc7 ?_ ?_ ?_ ?_ ?_
            · exact rk
            · exact sv
            · omega
            · omega
            · omega
  refine m_sub [(0, (2, ((2495 : Nat) : Int))), (1, (0, 0)), (2, (0, fw)), (3, (0, 0))] (List.forall_mem_cons.mpr ⟨rfl, List.forall_mem_cons.mpr ⟨rfl, List.forall_mem_cons.mpr ⟨rfl, List.forall_mem_cons.mpr ⟨rfl, fun _ h => absurd h List.not_mem_nil⟩⟩⟩⟩) ?_
  refine lp10 ((M + 1 - (0)) + 1).toNat (0) (0) hc2 ghc2 ?_ ?_ ?_ ?_ ?_
  · exact rk
  · exact sv
  · omega
  · omega
  · omega
set_option maxRecDepth 20000 in
set_option maxHeartbeats 8000000 in
theorem h_X14_loose {h : MH} {M k : Int} (j4 : J4 h M) (g : Str t14 r14 h) : MCal KX14_loose yX14_loose 0 0 [(2, ((2495 : Nat) : Int)), (0, k)] h (mRI fun v h' => (-1 ≤ v ∧ v ≤ 4) ∧ Rk h h' M) := by
  refine MCal.ofMW (Or.inl rfl) ⟨cp_X14, rfl⟩ (Nat.le_of_ble_eq_true rfl) ?_
  generalize eQ : (mRI fun v h' => (-1 ≤ v ∧ v ≤ 4) ∧ Rk h h' M : MO → MH → Prop) = Q
  change MW KX14_loose Q 0 0 (pcA pgX14_loose 0) [(0, (2, ((2495 : Nat) : Int))), (1, (0, k))] [] h
  refine hd_locI (i := 1) rfl (fun rk => ?_)
  have hM := j4.1.1
  refine hd_aload pkX14_loose rfl rfl (Int.natCast_nonneg _) ?_
  refine hd_ipush (z := 0) pkX14_loose rfl ?_
  refine hd_putI pkX14_loose rfl (g.cell 0 rfl).1 (g.cell 0 rfl).2.1 (fun hh1 ehh1 => ?_)
  have ghh1 : Str t14 r14 hh1 := by rw [ehh1]; exact g.setF rfl
  have rk := Rk.fault j4 ehh1
  refine hd_ipush (z := 0) pkX14_loose rfl ?_
  refine hd_istore pkX14_loose rfl rfl ?_
  change MW _ _ _ _ _ [(2, (0, 0)), (0, (2, ((2495 : Nat) : Int))), (1, (0, k))] _ _
  refine hd_aload pkX14_loose rfl rfl (Int.natCast_nonneg _) ?_
  refine hd_callV pkX14_loose rfl (q := (KX14_isFirm, yX14_isFirm, 14, 0, 0)) rfl rfl rfl (As := []) (rest := []) (c := 2495) rfl rfl (Nat.le_of_ble_eq_true rfl) (ghh1.cell 0 rfl).1 (ghh1.cell 0 rfl).2.1 (h_X14_isFirm rk.j ghh1) (hd_bI (fun fw hc2 pf => ?_))
  have ghc2 : Str t14 r14 hc2 := ghh1.rk pf.2.1
  have rk := rk.trans pf.2.1
  have sv := pf.2.2.2.1
  refine hd_istore pkX14_loose rfl rfl ?_
  change MW _ _ _ _ _ [(3, (0, fw)), (2, (0, 0)), (0, (2, ((2495 : Nat) : Int))), (1, (0, k))] _ _
  refine hd_ipush (z := 0) pkX14_loose rfl ?_
  refine hd_istore pkX14_loose rfl rfl ?_
  change MW _ _ _ _ _ [(4, (0, 0)), (3, (0, fw)), (2, (0, 0)), (0, (2, ((2495 : Nat) : Int))), (1, (0, k))] _ _
  have lp10 : ∀ (N10 : Nat) (mn nd : Int) (hl : MH), Str t14 r14 hl → (Rk h hl M) → (Sv4 hl M) → (0 ≤ nd ∧ nd ≤ M + 1) → (0 ≤ mn ∧ mn ≤ nd) → M + 1 - nd < (N10 : Int) → MW KX14_loose Q 0 0 (pcA pgX14_loose 10) [(0, (2, ((2495 : Nat) : Int))), (1, (0, k)), (2, (0, mn)), (3, (0, fw)), (4, (0, nd))] [] hl := by
    intro N10
    induction N10 with
    | zero => intro mn nd hl g10 rk sv nb mb hm10; exfalso; omega
    | succ N10 ih10 =>
      intro mn nd hl g10 rk sv nb mb hm10
      refine hd_iload pkX14_loose rfl rfl ?_
      refine hd_aload pkX14_loose rfl rfl (Int.natCast_nonneg _) ?_
      refine hd_getI pkX14_loose rfl (g10.cell 0 rfl).1 (g10.cell 0 rfl).2.1 (fun v3 ev3 rv3 => ?_)
      have qv3 : M = v3 := by rw [ev3]; exact rk.j.1.2.1.symm
      subst qv3
      refine hd_ic_gt pkX14_loose rfl (fun c4 => ?_) (fun c4 => ?_)
      · skip
        refine hd_ipush (z := (-1)) pkX14_loose rfl ?_
        refine hd_iret pkX14_loose rfl ?_
        subst eQ
        refine ⟨rfl, rfl, ?_, rk⟩
        show -1 ≤ (-1) ∧ (-1) ≤ 4
        omega
      · skip
        refine hd_iload pkX14_loose rfl rfl ?_
        refine hd_if_ne pkX14_loose rfl (fun c5 => ?_) (fun c5 => ?_)
        · skip
          refine hd_ipush (z := (-1)) pkX14_loose rfl ?_
          refine hd_iret pkX14_loose rfl ?_
          subst eQ
          refine ⟨rfl, rfl, ?_, rk⟩
          show -1 ≤ (-1) ∧ (-1) ≤ 4
          omega
        · skip
          refine hd_aload pkX14_loose rfl rfl (Int.natCast_nonneg _) ?_
          refine hd_iload pkX14_loose rfl rfl ?_
          obtain ⟨T, lk⟩ := sv.ls rk.j.1.1
          refine hd_callV pkX14_loose rfl (q := (KX14_isLoose, yX14_isLoose, 14, 1, 0)) rfl rfl rfl (As := [(0, nd)]) (rest := []) (c := 2495) rfl rfl (Nat.le_of_ble_eq_true rfl) (g10.cell 0 rfl).1 (g10.cell 0 rfl).2.1 (h_X14_isLoose rk.j.1 lk ⟨by omega, by omega⟩ g10) (hd_bI (fun w6 hc7 pl => ?_))
          have ghc7 : Str t14 r14 hc7 := g10.only pl.2.1 (by decide)
          have rk := rk.trans (Rk.ch rk.j pl.2 (by decide))
          have sv := sv.ch pl.2 (by decide)
          refine hd_if_eq pkX14_loose rfl (fun c8 => ?_) (fun c8 => ?_)
          · skip
            refine hd_iinc (z := 1) pkX14_loose rfl rfl (by omega) rfl ?_
            change MW _ _ _ _ _ [(4, (0, (nd + 1))), (0, (2, ((2495 : Nat) : Int))), (1, (0, k)), (2, (0, mn)), (3, (0, fw))] _ _
            refine hd_goto pkX14_loose rfl ?_
            refine m_sub [(0, (2, ((2495 : Nat) : Int))), (1, (0, k)), (2, (0, mn)), (3, (0, fw)), (4, (0, (nd + 1)))] (List.forall_mem_cons.mpr ⟨rfl, List.forall_mem_cons.mpr ⟨rfl, List.forall_mem_cons.mpr ⟨rfl, List.forall_mem_cons.mpr ⟨rfl, List.forall_mem_cons.mpr ⟨rfl, fun _ h => absurd h List.not_mem_nil⟩⟩⟩⟩⟩) ?_
            refine ih10  (mn) ((nd + 1)) hc7 ghc7 ?_ ?_ ?_ ?_ ?_
            · exact rk
            · exact sv
            · omega
            · omega
            · omega
          · skip
            refine hd_iload pkX14_loose rfl rfl ?_
            refine hd_iload pkX14_loose rfl rfl ?_
            refine hd_ic_ne pkX14_loose rfl (fun c9 => ?_) (fun c9 => ?_)
            · skip
              refine hd_iinc (z := 1) pkX14_loose rfl rfl (by omega) rfl ?_
              change MW _ _ _ _ _ [(2, (0, (mn + 1))), (0, (2, ((2495 : Nat) : Int))), (1, (0, k)), (3, (0, fw)), (4, (0, nd))] _ _
              refine hd_iinc (z := 1) pkX14_loose rfl rfl (by omega) rfl ?_
              change MW _ _ _ _ _ [(4, (0, (nd + 1))), (2, (0, (mn + 1))), (0, (2, ((2495 : Nat) : Int))), (1, (0, k)), (3, (0, fw))] _ _
              refine hd_goto pkX14_loose rfl ?_
              refine m_sub [(0, (2, ((2495 : Nat) : Int))), (1, (0, k)), (2, (0, (mn + 1))), (3, (0, fw)), (4, (0, (nd + 1)))] (List.forall_mem_cons.mpr ⟨rfl, List.forall_mem_cons.mpr ⟨rfl, List.forall_mem_cons.mpr ⟨rfl, List.forall_mem_cons.mpr ⟨rfl, List.forall_mem_cons.mpr ⟨rfl, fun _ h => absurd h List.not_mem_nil⟩⟩⟩⟩⟩) ?_
              refine ih10  ((mn + 1)) ((nd + 1)) hc7 ghc7 ?_ ?_ ?_ ?_ ?_
              · exact rk
              · exact sv
              · omega
              · omega
              · omega
            · skip
              refine hd_iload pkX14_loose rfl rfl ?_
              refine hd_iret pkX14_loose rfl ?_
              subst eQ
              refine ⟨rfl, rfl, ?_, rk⟩
              show -1 ≤ nd ∧ nd ≤ 4
              omega
  refine m_sub [(0, (2, ((2495 : Nat) : Int))), (1, (0, k)), (2, (0, 0)), (3, (0, fw)), (4, (0, 0))] (List.forall_mem_cons.mpr ⟨rfl, List.forall_mem_cons.mpr ⟨rfl, List.forall_mem_cons.mpr ⟨rfl, List.forall_mem_cons.mpr ⟨rfl, List.forall_mem_cons.mpr ⟨rfl, fun _ h => absurd h List.not_mem_nil⟩⟩⟩⟩⟩) ?_
  refine lp10 ((M + 1 - (0)) + 1).toNat (0) (0) hc2 ghc2 ?_ ?_ ?_ ?_ ?_
  · exact rk
  · exact sv
  · omega
  · omega
  · omega
set_option maxRecDepth 20000 in
set_option maxHeartbeats 8000000 in
theorem h_X14_noBeam {h : MH} {k M : Int} (hM : ga h 2495 3 = M) (g : Str t14 r14 h) : MCal KX14_noBeam yX14_noBeam 0 0 [(2, ((2495 : Nat) : Int)), (0, k)] h (mRI fun v h' => ((v = 0 ∧ 0 ≤ k ∧ k < M) ∨ (v = 1 ∧ ¬(0 ≤ k ∧ k < M))) ∧ h' = h) := by
  refine MCal.ofMW (Or.inl rfl) ⟨cp_X14, rfl⟩ (Nat.le_of_ble_eq_true rfl) ?_
  generalize eQ : (mRI fun v h' => ((v = 0 ∧ 0 ≤ k ∧ k < M) ∨ (v = 1 ∧ ¬(0 ≤ k ∧ k < M))) ∧ h' = h : MO → MH → Prop) = Q
  change MW KX14_noBeam Q 0 0 (pcA pgX14_noBeam 0) [(0, (2, ((2495 : Nat) : Int))), (1, (0, k))] [] h
  refine hd_locI (i := 1) rfl (fun rk => ?_)
  refine hd_iload pkX14_noBeam rfl rfl ?_
  refine hd_if_lt pkX14_noBeam rfl (fun c1 => ?_) (fun c1 => ?_)
  · skip
    refine hd_ipush (z := 1) pkX14_noBeam rfl ?_
    refine hd_goto pkX14_noBeam rfl ?_
    refine hd_zret pkX14_noBeam rfl (by omega) ?_
    subst eQ
    exact ⟨rfl, rfl, Or.inr ⟨rfl, by omega⟩, rfl⟩
  · skip
    refine hd_iload pkX14_noBeam rfl rfl ?_
    refine hd_aload pkX14_noBeam rfl rfl (Int.natCast_nonneg _) ?_
    refine hd_getI pkX14_noBeam rfl (g.cell 0 rfl).1 (g.cell 0 rfl).2.1 (fun v2 ev2 rv2 => ?_)
    have qv2 : M = v2 := by rw [ev2]; exact hM.symm
    subst qv2
    refine hd_ic_lt pkX14_noBeam rfl (fun c3 => ?_) (fun c3 => ?_)
    · skip
      refine hd_ipush (z := 0) pkX14_noBeam rfl ?_
      refine hd_zret pkX14_noBeam rfl (by omega) ?_
      subst eQ
      exact ⟨rfl, rfl, Or.inl ⟨rfl, by omega, by omega⟩, rfl⟩
    · skip
      refine hd_ipush (z := 1) pkX14_noBeam rfl ?_
      refine hd_goto pkX14_noBeam rfl ?_
      refine hd_zret pkX14_noBeam rfl (by omega) ?_
      subst eQ
      exact ⟨rfl, rfl, Or.inr ⟨rfl, by omega⟩, rfl⟩
set_option maxRecDepth 20000 in
set_option maxHeartbeats 8000000 in
theorem h_X14_noNode {h : MH} {k M : Int} (hM : ga h 2495 3 = M) (g : Str t14 r14 h) : MCal KX14_noNode yX14_noNode 0 0 [(2, ((2495 : Nat) : Int)), (0, k)] h (mRI fun v h' => ((v = 0 ∧ 0 ≤ k ∧ k ≤ M) ∨ (v = 1 ∧ ¬(0 ≤ k ∧ k ≤ M))) ∧ h' = h) := by
  refine MCal.ofMW (Or.inl rfl) ⟨cp_X14, rfl⟩ (Nat.le_of_ble_eq_true rfl) ?_
  generalize eQ : (mRI fun v h' => ((v = 0 ∧ 0 ≤ k ∧ k ≤ M) ∨ (v = 1 ∧ ¬(0 ≤ k ∧ k ≤ M))) ∧ h' = h : MO → MH → Prop) = Q
  change MW KX14_noNode Q 0 0 (pcA pgX14_noNode 0) [(0, (2, ((2495 : Nat) : Int))), (1, (0, k))] [] h
  refine hd_locI (i := 1) rfl (fun rk => ?_)
  refine hd_iload pkX14_noNode rfl rfl ?_
  refine hd_if_lt pkX14_noNode rfl (fun c1 => ?_) (fun c1 => ?_)
  · skip
    refine hd_ipush (z := 1) pkX14_noNode rfl ?_
    refine hd_goto pkX14_noNode rfl ?_
    refine hd_zret pkX14_noNode rfl (by omega) ?_
    subst eQ
    exact ⟨rfl, rfl, Or.inr ⟨rfl, by omega⟩, rfl⟩
  · skip
    refine hd_iload pkX14_noNode rfl rfl ?_
    refine hd_aload pkX14_noNode rfl rfl (Int.natCast_nonneg _) ?_
    refine hd_getI pkX14_noNode rfl (g.cell 0 rfl).1 (g.cell 0 rfl).2.1 (fun v2 ev2 rv2 => ?_)
    have qv2 : M = v2 := by rw [ev2]; exact hM.symm
    subst qv2
    refine hd_ic_le pkX14_noNode rfl (fun c3 => ?_) (fun c3 => ?_)
    · skip
      refine hd_ipush (z := 0) pkX14_noNode rfl ?_
      refine hd_zret pkX14_noNode rfl (by omega) ?_
      subst eQ
      exact ⟨rfl, rfl, Or.inl ⟨rfl, by omega, by omega⟩, rfl⟩
    · skip
      refine hd_ipush (z := 1) pkX14_noNode rfl ?_
      refine hd_goto pkX14_noNode rfl ?_
      refine hd_zret pkX14_noNode rfl (by omega) ?_
      subst eQ
      exact ⟨rfl, rfl, Or.inr ⟨rfl, by omega⟩, rfl⟩
set_option maxRecDepth 20000 in
set_option maxHeartbeats 8000000 in
theorem h_X14_none {h : MH} {a : Int} (g : Str t14 r14 h) : MCal KX14_none yX14_none 0 0 [(0, a)] h (mRL fun v h' => v = (if a = -1 then -2 else -1) ∧ h' = h) := by
  refine MCal.ofMW (Or.inl rfl) ⟨cp_X14, rfl⟩ (Nat.le_of_ble_eq_true rfl) ?_
  generalize eQ : (mRL fun v h' => v = (if a = -1 then -2 else -1) ∧ h' = h : MO → MH → Prop) = Q
  change MW KX14_none Q 0 0 (pcA pgX14_none 0) [(0, (0, a))] [] h
  refine hd_locI (i := 0) rfl (fun ra => ?_)
  refine hd_iload pkX14_none rfl rfl ?_
  refine hd_ipush (z := (-1)) pkX14_none rfl ?_
  refine hd_ic_ne pkX14_none rfl (fun c1 => ?_) (fun c1 => ?_)
  · skip
    refine hd_lpush (z := (-1)) pkX14_none rfl ?_
    refine hd_lret pkX14_none rfl ?_
    subst eQ
    refine ⟨rfl, rfl, ?_, rfl⟩
    show ((-1) : Int) = if a = -1 then -2 else -1
    rw [if_neg (by omega)]
  · skip
    refine hd_lpush (z := (-2)) pkX14_none rfl ?_
    refine hd_goto pkX14_none rfl ?_
    refine hd_lret pkX14_none rfl ?_
    subst eQ
    refine ⟨rfl, rfl, ?_, rfl⟩
    show ((-2) : Int) = if a = -1 then -2 else -1
    rw [if_pos (by omega)]
set_option maxRecDepth 20000 in
set_option maxHeartbeats 8000000 in
theorem h_X14_noRow {h : MH} {row M : Int} (j4 : J4 h M) (r8 : R8 h M) (g : Str t14 r14 h) : MCal KX14_noRow yX14_noRow 0 0 [(2, ((2495 : Nat) : Int)), (0, row)] h (mRI fun v h' => (v = 0 ∨ v = 1) ∧ Rk h h' M ∧ (v = 0 → (0 ≤ row ∧ row < ga h 2495 12) ∧ ga h' 2495 16 ≠ 0 ∧ Sv4 h' M ∧ ga h' 2495 18 = 4 * M)) := by
  refine MCal.ofMW (Or.inl rfl) ⟨cp_X14, rfl⟩ (Nat.le_of_ble_eq_true rfl) ?_
  generalize eQ : (mRI fun v h' => (v = 0 ∨ v = 1) ∧ Rk h h' M ∧ (v = 0 → (0 ≤ row ∧ row < ga h 2495 12) ∧ ga h' 2495 16 ≠ 0 ∧ Sv4 h' M ∧ ga h' 2495 18 = 4 * M) : MO → MH → Prop) = Q
  change MW KX14_noRow Q 0 0 (pcA pgX14_noRow 0) [(0, (2, ((2495 : Nat) : Int))), (1, (0, row))] [] h
  refine hd_locI (i := 1) rfl (fun rrow => ?_)
  have hM := j4.1.1
  have rk := Rk.refl j4
  refine hd_iload pkX14_noRow rfl rfl ?_
  refine hd_if_lt pkX14_noRow rfl (fun c1 => ?_) (fun c1 => ?_)
  · skip
    refine hd_ipush (z := 1) pkX14_noRow rfl ?_
    refine hd_goto pkX14_noRow rfl ?_
    refine hd_zret pkX14_noRow rfl (by omega) ?_
    subst eQ
    exact ⟨rfl, rfl, Or.inr rfl, rk, fun q => absurd (show (1 : Int) = 0 from q) (by decide)⟩
  · skip
    refine hd_iload pkX14_noRow rfl rfl ?_
    refine hd_aload pkX14_noRow rfl rfl (Int.natCast_nonneg _) ?_
    refine hd_getI pkX14_noRow rfl (g.cell 0 rfl).1 (g.cell 0 rfl).2.1 (fun v2 ev2 rv2 => ?_)
    have r9 : 0 ≤ v2 ∧ v2 ≤ 8 := by rw [ev2]; exact r8.1
    have r7 : row < v2 → row < ga h 2495 12 := fun q => by rw [ev2] at q; exact q
    refine hd_ic_ge pkX14_noRow rfl (fun c3 => ?_) (fun c3 => ?_)
    · skip
      refine hd_ipush (z := 1) pkX14_noRow rfl ?_
      refine hd_goto pkX14_noRow rfl ?_
      refine hd_zret pkX14_noRow rfl (by omega) ?_
      subst eQ
      exact ⟨rfl, rfl, Or.inr rfl, rk, fun q => absurd (show (1 : Int) = 0 from q) (by decide)⟩
    · skip
      have cut20 : ∀ (_ : True), (row < ga h 2495 12) → MW KX14_noRow Q 0 0 (pcA pgX14_noRow 20) [(0, (2, ((2495 : Nat) : Int))), (1, (0, row))] [] h := by
        intro _ lt9
        refine hd_aload pkX14_noRow rfl rfl (Int.natCast_nonneg _) ?_
        refine hd_callV pkX14_noRow rfl (q := (KX14_isFirm, yX14_isFirm, 14, 0, 0)) rfl rfl rfl (As := []) (rest := []) (c := 2495) rfl rfl (Nat.le_of_ble_eq_true rfl) (g.cell 0 rfl).1 (g.cell 0 rfl).2.1 (h_X14_isFirm rk.j g) (hd_bI (fun fw hc4 pf => ?_))
        have ghc4 : Str t14 r14 hc4 := g.rk pf.2.1
        have rk := rk.trans pf.2.1
        have n16 := pf.2.2.1
        have sv := pf.2.2.2.1
        have fv := pf.1
        have fe := pf.2.2.2.2
        refine hd_if_ne pkX14_noRow rfl (fun c5 => ?_) (fun c5 => ?_)
        · skip
          refine hd_ipush (z := 0) pkX14_noRow rfl ?_
          refine hd_zret pkX14_noRow rfl (by omega) ?_
          subst eQ
          exact ⟨rfl, rfl, Or.inl rfl, rk, fun _ => ⟨⟨by omega, r7 (by omega)⟩, n16, sv, fe (by omega)⟩⟩
        · skip
          refine hd_ipush (z := 1) pkX14_noRow rfl ?_
          refine hd_goto pkX14_noRow rfl ?_
          refine hd_zret pkX14_noRow rfl (by omega) ?_
          subst eQ
          exact ⟨rfl, rfl, Or.inr rfl, rk, fun q => absurd (show (1 : Int) = 0 from q) (by decide)⟩
      refine hd_aload pkX14_noRow rfl rfl (Int.natCast_nonneg _) ?_
      refine hd_getR (n := 2505) pkX14_noRow rfl (g.cell 0 rfl).1 (g.cell 0 rfl).2.1 (g.ref 9 rfl) ?_
      refine hd_iload pkX14_noRow rfl rfl ?_
      refine hd_iald (n := 8) pkX14_noRow rfl (g.cell 10 rfl) (by omega) (by omega) (fun v6 ev6 rv6 => ?_)
      refine hd_ipush (z := 3) pkX14_noRow rfl ?_
      refine hd_ic_ne pkX14_noRow rfl (fun c7 => ?_) (fun c7 => ?_)
      · skip
        refine cut20 trivial ?_
        · exact r7 (by omega)
      · skip
        refine hd_aload pkX14_noRow rfl rfl (Int.natCast_nonneg _) ?_
        refine hd_getR (n := 2500) pkX14_noRow rfl (g.cell 0 rfl).1 (g.cell 0 rfl).2.1 (g.ref 4 rfl) ?_
        refine hd_aload pkX14_noRow rfl rfl (Int.natCast_nonneg _) ?_
        refine hd_getR (n := 2506) pkX14_noRow rfl (g.cell 0 rfl).1 (g.cell 0 rfl).2.1 (g.ref 10 rfl) ?_
        refine hd_iload pkX14_noRow rfl rfl ?_
        refine hd_iald (n := 8) pkX14_noRow rfl (g.cell 11 rfl) (by omega) (by omega) (fun v8 ev8 rv8 => ?_)
        have hm : 0 ≤ v8 ∧ v8 ≤ M := by rw [ev8]; exact (r8.2 row (by omega) (r7 (by omega))).2.1
        refine hd_zald (n := 4) pkX14_noRow rfl (g.cell 5 rfl) (by omega) (by omega) (fun v9 ev9 rv9 => ?_)
        refine hd_if_eq pkX14_noRow rfl (fun c10 => ?_) (fun c10 => ?_)
        · skip
          refine hd_ipush (z := 1) pkX14_noRow rfl ?_
          refine hd_goto pkX14_noRow rfl ?_
          refine hd_zret pkX14_noRow rfl (by omega) ?_
          subst eQ
          exact ⟨rfl, rfl, Or.inr rfl, rk, fun q => absurd (show (1 : Int) = 0 from q) (by decide)⟩
        · skip
          refine cut20 trivial ?_
          · exact r7 (by omega)
