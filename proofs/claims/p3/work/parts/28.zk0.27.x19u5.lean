set_option maxRecDepth 20000 in
set_option maxHeartbeats 8000000 in
theorem h_X19_noTrain {h : MH} {t tn : Int} (htn : ga h 2514 7 = tn) (g : Str t19 r19 h) : MCal KX19_noTrain yX19_noTrain 0 0 [(2, ((2514 : Nat) : Int)), (0, t)] h (mRI fun v h' => ((v = 0 ∧ 0 ≤ t ∧ t < tn) ∨ (v = 1 ∧ ¬(0 ≤ t ∧ t < tn))) ∧ h' = h) := by
  refine MCal.ofMW (Or.inl rfl) ⟨cp_X19, rfl⟩ (Nat.le_of_ble_eq_true rfl) ?_
  generalize eQ : (mRI fun v h' => ((v = 0 ∧ 0 ≤ t ∧ t < tn) ∨ (v = 1 ∧ ¬(0 ≤ t ∧ t < tn))) ∧ h' = h : MO → MH → Prop) = Q
  change MW KX19_noTrain Q 0 0 (pcA pgX19_noTrain 0) [(0, (2, ((2514 : Nat) : Int))), (1, (0, t))] [] h
  refine hd_locI (i := 1) rfl (fun rt => ?_)
  refine hd_iload pkX19_noTrain rfl rfl ?_
  refine hd_if_lt pkX19_noTrain rfl (fun c1 => ?_) (fun c1 => ?_)
  · skip
    refine hd_ipush (z := 1) pkX19_noTrain rfl ?_
    refine hd_goto pkX19_noTrain rfl ?_
    refine hd_zret pkX19_noTrain rfl (by omega) ?_
    subst eQ
    exact ⟨rfl, rfl, Or.inr ⟨rfl, by omega⟩, rfl⟩
  · skip
    refine hd_iload pkX19_noTrain rfl rfl ?_
    refine hd_aload pkX19_noTrain rfl rfl (Int.natCast_nonneg _) ?_
    refine hd_getI pkX19_noTrain rfl (g.cell 0 rfl).1 (g.cell 0 rfl).2.1 (fun v2 ev2 rv2 => ?_)
    have qv2 : tn = v2 := by rw [ev2]; exact htn.symm
    subst qv2
    refine hd_ic_lt pkX19_noTrain rfl (fun c3 => ?_) (fun c3 => ?_)
    · skip
      refine hd_ipush (z := 0) pkX19_noTrain rfl ?_
      refine hd_zret pkX19_noTrain rfl (by omega) ?_
      subst eQ
      exact ⟨rfl, rfl, Or.inl ⟨rfl, by omega, by omega⟩, rfl⟩
    · skip
      refine hd_ipush (z := 1) pkX19_noTrain rfl ?_
      refine hd_goto pkX19_noTrain rfl ?_
      refine hd_zret pkX19_noTrain rfl (by omega) ?_
      subst eQ
      exact ⟨rfl, rfl, Or.inr ⟨rfl, by omega⟩, rfl⟩
set_option maxRecDepth 20000 in
set_option maxHeartbeats 8000000 in
theorem h_X19_addEffect {h : MH} {t s9 bk cn : Int} {m : Nat} (ht : 0 ≤ t ∧ t < 6) (hs : -2000 ≤ s9 ∧ s9 ≤ 2000) (sn : S19 h cn) (cv : CV h cn) (ne0 : Nx h 15 m) (hm : 16 ≤ m ∧ m ≤ 90) (g : Str t19 r19 h) : MCal KX19_addEffect yX19_addEffect 0 0 [(2, ((2514 : Nat) : Int)), (0, t), (0, s9), (0, bk)] h (mRV fun h' => Ch 140 2515 2516 [15, 17, 19, 21, 22, 25] h h' ∧ Nx h' 15 (m + 5)) := by
  refine MCal.ofMW (Or.inl rfl) ⟨cp_X19, rfl⟩ (Nat.le_of_ble_eq_true rfl) ?_
  generalize eQ : (mRV fun h' => Ch 140 2515 2516 [15, 17, 19, 21, 22, 25] h h' ∧ Nx h' 15 (m + 5) : MO → MH → Prop) = Q
  change MW KX19_addEffect Q 0 0 (pcA pgX19_addEffect 0) [(0, (2, ((2514 : Nat) : Int))), (1, (0, t)), (2, (0, s9)), (3, (0, bk))] [] h
  refine hd_locI (i := 1) rfl (fun rt => ?_)
  refine hd_locI (i := 2) rfl (fun rs9 => ?_)
  refine hd_locI (i := 3) rfl (fun rbk => ?_)
  have cb := sn.1.2.1
  obtain ⟨ax, hax⟩ : ∃ x : Int, x = ga h 2520 t := ⟨_, rfl⟩
  have axb : 0 ≤ ax ∧ ax ≤ 5 := by rw [hax]; exact (sn.2.1.2 t ht.1 ht.2).1
  refine hd_ipush (z := 5) pkX19_addEffect rfl ?_
  refine hd_iload pkX19_addEffect rfl rfl ?_
  refine hd_imul pkX19_addEffect rfl (by omega) ?_
  refine hd_istore pkX19_addEffect rfl rfl ?_
  change MW _ _ _ _ _ [(4, (0, (5 * t))), (0, (2, ((2514 : Nat) : Int))), (1, (0, t)), (2, (0, s9)), (3, (0, bk))] _ _
  have lp4 : ∀ (N4 : Nat) (k : Int) (hl : MH), Str t19 r19 hl → (Ch 140 2515 2516 [15, 17, 19, 21, 22, 25] h hl) → (5 * t ≤ k ∧ k ≤ 5 * t + ax) → (Nx hl 15 (m + (k - 5 * t).toNat)) → 5 * t + ax - k < (N4 : Int) → MW KX19_addEffect Q 0 0 (pcA pgX19_addEffect 4) [(0, (2, ((2514 : Nat) : Int))), (1, (0, t)), (2, (0, s9)), (3, (0, bk)), (4, (0, k))] [] hl := by
    intro N4
    induction N4 with
    | zero => intro k hl g4 hC k0 ne hm4; exfalso; omega
    | succ N4 ih4 =>
      intro k hl g4 hC k0 ne hm4
      refine hd_iload pkX19_addEffect rfl rfl ?_
      refine hd_ipush (z := 5) pkX19_addEffect rfl ?_
      refine hd_iload pkX19_addEffect rfl rfl ?_
      refine hd_imul pkX19_addEffect rfl (by omega) ?_
      refine hd_aload pkX19_addEffect rfl rfl (Int.natCast_nonneg _) ?_
      refine hd_getR (n := 2520) pkX19_addEffect rfl (g4.cell 0 rfl).1 (g4.cell 0 rfl).2.1 (g4.ref 5 rfl) ?_
      refine hd_iload pkX19_addEffect rfl rfl ?_
      refine hd_iald (n := 6) pkX19_addEffect rfl (g4.cell 6 rfl) (by omega) (by omega) (fun v1 ev1 rv1 => ?_)
      have qv1 : ax = v1 := by rw [ev1, hC.1.ga (by decide)]; exact hax
      subst qv1
      refine hd_iadd pkX19_addEffect rfl (by omega) ?_
      refine hd_ic_ge pkX19_addEffect rfl (fun c2 => ?_) (fun c2 => ?_)
      · skip
        refine hd_vret pkX19_addEffect rfl ?_
        subst eQ
        exact ⟨rfl, hC, ne.up (by omega)⟩
      · skip
        refine hd_aload pkX19_addEffect rfl rfl (Int.natCast_nonneg _) ?_
        have cut30 : ∀ (xx : Int), (-3000 ≤ xx ∧ xx ≤ 3000) → MW KX19_addEffect Q 0 0 (pcA pgX19_addEffect 30) [(0, (2, ((2514 : Nat) : Int))), (1, (0, t)), (2, (0, s9)), (3, (0, bk)), (4, (0, k))] [(0, xx), (2, ((2514 : Nat) : Int))] hl := by
          intro xx xxv
          refine hd_aload pkX19_addEffect rfl rfl (Int.natCast_nonneg _) ?_
          refine hd_getR (n := 2522) pkX19_addEffect rfl (g4.cell 0 rfl).1 (g4.cell 0 rfl).2.1 (g4.ref 7 rfl) ?_
          refine hd_iload pkX19_addEffect rfl rfl ?_
          refine hd_iald (n := 30) pkX19_addEffect rfl (g4.cell 8 rfl) (by omega) (by omega) (fun v3 ev3 rv3 => ?_)
          have tb9 := (sn.2.1.2 t ht.1 ht.2).2.2.2 (k - 5 * t) (by omega) (by rw [← hax]; omega)
          rw [show 5 * t + (k - 5 * t) = k by omega] at tb9
          have lb9 : 0 ≤ v3 ∧ v3 ≤ 1000000 := by rw [ev3, hC.1.ga (by decide)]; exact tb9.2
          refine hd_i2l pkX19_addEffect rfl ?_
          refine hd_callV pkX19_addEffect rfl (q := (KX19_addValue, yX19_addValue, 19, 2, 0)) rfl rfl rfl (As := [(0, xx), (1, v3)]) (rest := []) (c := 2514) rfl rfl (Nat.le_of_ble_eq_true rfl) (g4.cell 0 rfl).1 (g4.cell 0 rfl).2.1 (h_X19_addValue (m := m + (k - 5 * t).toNat) ⟨by omega, by omega⟩ lb9 (sn.only hC.1) (cv.keep hC (fun i a b => by simp only [List.mem_cons, List.not_mem_nil, or_false, not_or]; omega)) ne ⟨by omega, by omega⟩ g4) (hd_bV (fun hc4 pv => ?_))
          have ghc4 : Str t19 r19 hc4 := g4.only pv.1.1 (by decide)
          have hC := hC.trans pv.1
          have ne := pv.2
          refine hd_iinc (z := 1) pkX19_addEffect rfl rfl (by omega) rfl ?_
          change MW _ _ _ _ _ [(4, (0, (k + 1))), (0, (2, ((2514 : Nat) : Int))), (1, (0, t)), (2, (0, s9)), (3, (0, bk))] _ _
          refine hd_goto pkX19_addEffect rfl ?_
          refine m_sub [(0, (2, ((2514 : Nat) : Int))), (1, (0, t)), (2, (0, s9)), (3, (0, bk)), (4, (0, (k + 1)))] (List.forall_mem_cons.mpr ⟨rfl, List.forall_mem_cons.mpr ⟨rfl, List.forall_mem_cons.mpr ⟨rfl, List.forall_mem_cons.mpr ⟨rfl, List.forall_mem_cons.mpr ⟨rfl, fun _ h => absurd h List.not_mem_nil⟩⟩⟩⟩⟩) ?_
          refine ih4  ((k + 1)) hc4 ghc4 ?_ ?_ ?_ ?_
          · exact hC
          · omega
          · rw [show m + (k + 1 - 5 * t).toNat = m + (k - 5 * t).toNat + 1 by omega]
            exact ne
          · omega
        refine hd_iload pkX19_addEffect rfl rfl ?_
        refine hd_if_eq pkX19_addEffect rfl (fun c5 => ?_) (fun c5 => ?_)
        · skip
          refine hd_iload pkX19_addEffect rfl rfl ?_
          refine hd_aload pkX19_addEffect rfl rfl (Int.natCast_nonneg _) ?_
          refine hd_getR (n := 2521) pkX19_addEffect rfl (g4.cell 0 rfl).1 (g4.cell 0 rfl).2.1 (g4.ref 6 rfl) ?_
          refine hd_iload pkX19_addEffect rfl rfl ?_
          refine hd_iald (n := 30) pkX19_addEffect rfl (g4.cell 7 rfl) (by omega) (by omega) (fun v6 ev6 rv6 => ?_)
          have tb9 := (sn.2.1.2 t ht.1 ht.2).2.2.2 (k - 5 * t) (by omega) (by rw [← hax]; omega)
          rw [show 5 * t + (k - 5 * t) = k by omega] at tb9
          have bh : 0 ≤ v6 ∧ v6 ≤ 240 := by rw [ev6, hC.1.ga (by decide)]; omega
          refine hd_isub pkX19_addEffect rfl (by omega) ?_
          refine cut30 ((s9 - v6)) ?_
          · omega
        · skip
          refine hd_iload pkX19_addEffect rfl rfl ?_
          refine hd_aload pkX19_addEffect rfl rfl (Int.natCast_nonneg _) ?_
          refine hd_getR (n := 2521) pkX19_addEffect rfl (g4.cell 0 rfl).1 (g4.cell 0 rfl).2.1 (g4.ref 6 rfl) ?_
          refine hd_iload pkX19_addEffect rfl rfl ?_
          refine hd_iald (n := 30) pkX19_addEffect rfl (g4.cell 7 rfl) (by omega) (by omega) (fun v7 ev7 rv7 => ?_)
          have tb9 := (sn.2.1.2 t ht.1 ht.2).2.2.2 (k - 5 * t) (by omega) (by rw [← hax]; omega)
          rw [show 5 * t + (k - 5 * t) = k by omega] at tb9
          have bh : 0 ≤ v7 ∧ v7 ≤ 240 := by rw [ev7, hC.1.ga (by decide)]; omega
          refine hd_iadd pkX19_addEffect rfl (by omega) ?_
          refine hd_goto pkX19_addEffect rfl ?_
          refine cut30 ((s9 + v7)) ?_
          · omega
  refine m_sub [(0, (2, ((2514 : Nat) : Int))), (1, (0, t)), (2, (0, s9)), (3, (0, bk)), (4, (0, (5 * t)))] (List.forall_mem_cons.mpr ⟨rfl, List.forall_mem_cons.mpr ⟨rfl, List.forall_mem_cons.mpr ⟨rfl, List.forall_mem_cons.mpr ⟨rfl, List.forall_mem_cons.mpr ⟨rfl, fun _ h => absurd h List.not_mem_nil⟩⟩⟩⟩⟩) ?_
  refine lp4 ((5 * t + ax - ((5 * t))) + 1).toNat ((5 * t)) h g ?_ ?_ ?_ ?_
  · exact Ch.refl _ _ _ _ _
  · omega
  · rw [show (5 * t - 5 * t).toNat = 0 by omega]
    exact ne0
  · omega
set_option maxRecDepth 20000 in
set_option maxHeartbeats 8000000 in
theorem h_X19_gather {h : MH} {t bk cn : Int} (ht : 0 ≤ t ∧ t < 6) (sn : S19 h cn) (g : Str t19 r19 h) : MCal KX19_gather yX19_gather 0 0 [(2, ((2514 : Nat) : Int)), (0, t), (0, bk)] h (mRV fun h' => Only [2514, 2532] h h' ∧ (∀ j : Int, 0 ≤ j → j ≠ 31 → ga h' 2514 j = ga h 2514 j) ∧ ∃ mn : Int, ga h' 2514 31 = mn ∧ 0 ≤ mn ∧ mn ≤ 70 ∧ ∀ i : Int, 0 ≤ i → i < mn → -400 ≤ ga h' 2532 i ∧ ga h' 2532 i ≤ 800) := by
  refine MCal.ofMW (Or.inl rfl) ⟨cp_X19, rfl⟩ (Nat.le_of_ble_eq_true rfl) ?_
  generalize eQ : (mRV fun h' => Only [2514, 2532] h h' ∧ (∀ j : Int, 0 ≤ j → j ≠ 31 → ga h' 2514 j = ga h 2514 j) ∧ ∃ mn : Int, ga h' 2514 31 = mn ∧ 0 ≤ mn ∧ mn ≤ 70 ∧ ∀ i : Int, 0 ≤ i → i < mn → -400 ≤ ga h' 2532 i ∧ ga h' 2532 i ≤ 800 : MO → MH → Prop) = Q
  change MW KX19_gather Q 0 0 (pcA pgX19_gather 0) [(0, (2, ((2514 : Nat) : Int))), (1, (0, t)), (2, (0, bk))] [] h
  refine hd_locI (i := 1) rfl (fun rt => ?_)
  refine hd_locI (i := 2) rfl (fun rbk => ?_)
  have cb := sn.1.2.1
  obtain ⟨ax, hax⟩ : ∃ x : Int, x = ga h 2520 t := ⟨_, rfl⟩
  have axb : 0 ≤ ax ∧ ax ≤ 5 := by rw [hax]; exact (sn.2.1.2 t ht.1 ht.2).1
  refine hd_aload pkX19_gather rfl rfl (Int.natCast_nonneg _) ?_
  refine hd_ipush (z := 0) pkX19_gather rfl ?_
  refine hd_putI pkX19_gather rfl (g.cell 0 rfl).1 (g.cell 0 rfl).2.1 (fun hh1 ehh1 => ?_)
  have ghh1 : Str t19 r19 hh1 := by rw [ehh1]; exact g.setF rfl
  have hO : Only [2514, 2532] h hh1 := (Only.wr ehh1).mono (by decide)
  have hf : ∀ j : Int, 0 ≤ j → j ≠ 31 → ga hh1 2514 j = ga h 2514 j := fun j a b => (ga_wr ehh1 (by decide) a).trans (if_neg b)
  have e31 : ga hh1 2514 31 = 0 := (ga_wr ehh1 (by decide) (by decide)).trans (if_pos rfl)
  refine hd_ipush (z := (-400)) pkX19_gather rfl ?_
  refine hd_istore pkX19_gather rfl rfl ?_
  change MW _ _ _ _ _ [(3, (0, (-400))), (0, (2, ((2514 : Nat) : Int))), (1, (0, t)), (2, (0, bk))] _ _
  have lp5 : ∀ (N5 : Nat) (s9 : Int) (hs5 : MH), Str t19 r19 hs5 → (Only [2514, 2532] h hs5) → (∀ j : Int, 0 ≤ j → j ≠ 31 → ga hs5 2514 j = ga h 2514 j) → (-400 ≤ s9 ∧ s9 ≤ 801) → (∃ mn : Int, ga hs5 2514 31 = mn ∧ 0 ≤ mn ∧ mn ≤ cP h t bk s9 ∧ ∀ i : Int, 0 ≤ i → i < mn → -400 ≤ ga hs5 2532 i ∧ ga hs5 2532 i ≤ 800) → (801 : Int) - s9 < (N5 : Int) → MW KX19_gather Q 0 0 (pcA pgX19_gather 5) [(0, (2, ((2514 : Nat) : Int))), (1, (0, t)), (2, (0, bk)), (3, (0, s9))] [] hs5 := by
    intro N5
    induction N5 with
    | zero => intro s9 hs5 g5 hO hf s0 mnx hm5; exfalso; omega
    | succ N5 ih5 =>
      intro s9 hs5 g5 hO hf s0 mnx hm5
      obtain ⟨mn, e31, mn0, mn1, mp⟩ := mnx
      have cb9 := cP_b h t bk s9
      refine hd_iload pkX19_gather rfl rfl ?_
      refine hd_ipush (z := 800) pkX19_gather rfl ?_
      refine hd_ic_gt pkX19_gather rfl (fun c2 => ?_) (fun c2 => ?_)
      · skip
        refine hd_vret pkX19_gather rfl ?_
        subst eQ
        exact ⟨rfl, hO, hf, mn, e31, mn0, by omega, mp⟩
      · skip
        refine hd_ipush (z := 0) pkX19_gather rfl ?_
        refine hd_istore pkX19_gather rfl rfl ?_
        change MW _ _ _ _ _ [(4, (0, 0)), (0, (2, ((2514 : Nat) : Int))), (1, (0, t)), (2, (0, bk)), (3, (0, s9))] _ _
        refine hd_ipush (z := 5) pkX19_gather rfl ?_
        refine hd_iload pkX19_gather rfl rfl ?_
        refine hd_imul pkX19_gather rfl (by omega) ?_
        refine hd_istore pkX19_gather rfl rfl ?_
        change MW _ _ _ _ _ [(5, (0, (5 * t))), (4, (0, 0)), (0, (2, ((2514 : Nat) : Int))), (1, (0, t)), (2, (0, bk)), (3, (0, s9))] _ _
        have lp14 : ∀ (N14 : Nat) (isv k : Int), (5 * t ≤ k ∧ k ≤ 5 * t + ax) → ((isv = 0 ∨ (isv = 1 ∧ cP h t bk s9 + 1 ≤ cP h t bk (s9 + 1)))) → 5 * t + ax - k < (N14 : Int) → MW KX19_gather Q 0 0 (pcA pgX19_gather 14) [(0, (2, ((2514 : Nat) : Int))), (1, (0, t)), (2, (0, bk)), (3, (0, s9)), (4, (0, isv)), (5, (0, k))] [] hs5 := by
          intro N14
          induction N14 with
          | zero => intro isv k k0 iv hm14; exfalso; omega
          | succ N14 ih14 =>
            intro isv k k0 iv hm14
            refine hd_iload pkX19_gather rfl rfl ?_
            refine hd_ipush (z := 5) pkX19_gather rfl ?_
            refine hd_iload pkX19_gather rfl rfl ?_
            refine hd_imul pkX19_gather rfl (by omega) ?_
            refine hd_aload pkX19_gather rfl rfl (Int.natCast_nonneg _) ?_
            refine hd_getR (n := 2520) pkX19_gather rfl (g5.cell 0 rfl).1 (g5.cell 0 rfl).2.1 (g5.ref 5 rfl) ?_
            refine hd_iload pkX19_gather rfl rfl ?_
            refine hd_iald (n := 6) pkX19_gather rfl (g5.cell 6 rfl) (by omega) (by omega) (fun v3 ev3 rv3 => ?_)
            have qv3 : ax = v3 := by rw [ev3, hO.ga (by decide)]; exact hax
            subst qv3
            refine hd_iadd pkX19_gather rfl (by omega) ?_
            refine hd_ic_ge pkX19_gather rfl (fun c4 => ?_) (fun c4 => ?_)
            · skip
              refine hd_iload pkX19_gather rfl rfl ?_
              refine hd_if_eq pkX19_gather rfl (fun c5 => ?_) (fun c5 => ?_)
              · skip
                refine hd_iinc (z := 1) pkX19_gather rfl rfl (by omega) rfl ?_
                change MW _ _ _ _ _ [(3, (0, (s9 + 1))), (0, (2, ((2514 : Nat) : Int))), (1, (0, t)), (2, (0, bk)), (4, (0, isv)), (5, (0, k))] _ _
                refine hd_goto pkX19_gather rfl ?_
                refine m_sub [(0, (2, ((2514 : Nat) : Int))), (1, (0, t)), (2, (0, bk)), (3, (0, (s9 + 1)))] (List.forall_mem_cons.mpr ⟨rfl, List.forall_mem_cons.mpr ⟨rfl, List.forall_mem_cons.mpr ⟨rfl, List.forall_mem_cons.mpr ⟨rfl, fun _ h => absurd h List.not_mem_nil⟩⟩⟩⟩) ?_
                refine ih5  ((s9 + 1)) hs5 g5 ?_ ?_ ?_ ?_ ?_
                · exact hO
                · exact hf
                · omega
                · exact ⟨mn, e31, mn0, Int.le_trans mn1 (cP_m _ _ _ _), mp⟩
                · omega
              · skip
                refine hd_aload pkX19_gather rfl rfl (Int.natCast_nonneg _) ?_
                refine hd_getR (n := 2532) pkX19_gather rfl (g5.cell 0 rfl).1 (g5.cell 0 rfl).2.1 (g5.ref 17 rfl) ?_
                refine hd_aload pkX19_gather rfl rfl (Int.natCast_nonneg _) ?_
                refine hd_getI pkX19_gather rfl (g5.cell 0 rfl).1 (g5.cell 0 rfl).2.1 (fun v6 ev6 rv6 => ?_)
                have qv6 : mn = v6 := by rw [ev6]; exact e31.symm
                subst qv6
                refine hd_iload pkX19_gather rfl rfl ?_
                refine hd_iast (n := 80) pkX19_gather rfl (g5.cell 18 rfl) (by decide) (by omega) (by omega) (fun hh7 ehh7 => ?_)
                have ghh7 : Str t19 r19 hh7 := by rw [ehh7]; exact g5.setA rfl
                have hO := hO.trans ((Only.wr ehh7).mono (by decide))
                have hf := fun (j : Int) (a : 0 ≤ j) (b : j ≠ 31) => ((Only.wr ehh7).ga (d := 2514) (by decide) j).trans (hf j a b)
                have e31 := ((Only.wr ehh7).ga (d := 2514) (by decide) 31).trans e31
                have mpN : ∀ i : Int, 0 ≤ i → i < mn + 1 → -400 ≤ ga hh7 2532 i ∧ ga hh7 2532 i ≤ 800 := fun i a b => by
                  rw [ga_wr ehh7 mn0 a]
                  by_cases q : i = mn
                  · rw [if_pos q]
                    omega
                  · rw [if_neg q]
                    exact mp i a (by omega)
                have isv9 : cP h t bk s9 + 1 ≤ cP h t bk (s9 + 1) := by omega
                refine hd_aload pkX19_gather rfl rfl (Int.natCast_nonneg _) ?_
                refine hd_dup pkX19_gather rfl rfl ?_
                refine hd_getI pkX19_gather rfl (ghh7.cell 0 rfl).1 (ghh7.cell 0 rfl).2.1 (fun v8 ev8 rv8 => ?_)
                have qv8 : mn = v8 := by rw [ev8]; exact e31.symm
                subst qv8
                refine hd_ipush (z := 1) pkX19_gather rfl ?_
                refine hd_iadd pkX19_gather rfl (by omega) ?_
                refine hd_putI pkX19_gather rfl (ghh7.cell 0 rfl).1 (ghh7.cell 0 rfl).2.1 (fun hh9 ehh9 => ?_)
                have ghh9 : Str t19 r19 hh9 := by rw [ehh9]; exact ghh7.setF rfl
                have hO := hO.trans ((Only.wr ehh9).mono (by decide))
                have hf := fun (j : Int) (a : 0 ≤ j) (b : j ≠ 31) => ((ga_wr ehh9 (by decide) a).trans (if_neg b)).trans (hf j a b)
                have e31 : ga hh9 2514 31 = mn + 1 := (ga_wr ehh9 (by decide) (by decide)).trans (if_pos rfl)
                have mpN := fun (i : Int) (a : 0 ≤ i) (b : i < mn + 1) => (by rw [(Only.wr ehh9).ga (d := 2532) (by decide)]; exact mpN i a b : -400 ≤ ga hh9 2532 i ∧ ga hh9 2532 i ≤ 800)
                refine hd_iinc (z := 1) pkX19_gather rfl rfl (by omega) rfl ?_
                change MW _ _ _ _ _ [(3, (0, (s9 + 1))), (0, (2, ((2514 : Nat) : Int))), (1, (0, t)), (2, (0, bk)), (4, (0, isv)), (5, (0, k))] _ _
                refine hd_goto pkX19_gather rfl ?_
                refine m_sub [(0, (2, ((2514 : Nat) : Int))), (1, (0, t)), (2, (0, bk)), (3, (0, (s9 + 1)))] (List.forall_mem_cons.mpr ⟨rfl, List.forall_mem_cons.mpr ⟨rfl, List.forall_mem_cons.mpr ⟨rfl, List.forall_mem_cons.mpr ⟨rfl, fun _ h => absurd h List.not_mem_nil⟩⟩⟩⟩) ?_
                refine ih5  ((s9 + 1)) hh9 ghh9 ?_ ?_ ?_ ?_ ?_
                · exact hO
                · exact hf
                · omega
                · exact ⟨mn + 1, e31, by omega, by have := isv9; omega, mpN⟩
                · omega
            · skip
              refine hd_iload pkX19_gather rfl rfl ?_
              refine hd_if_ne pkX19_gather rfl (fun c10 => ?_) (fun c10 => ?_)
              · skip
                refine hd_iload pkX19_gather rfl rfl ?_
                refine hd_if_eq pkX19_gather rfl (fun c11 => ?_) (fun c11 => ?_)
                · skip
                  refine hd_iinc (z := 1) pkX19_gather rfl rfl (by omega) rfl ?_
                  change MW _ _ _ _ _ [(3, (0, (s9 + 1))), (0, (2, ((2514 : Nat) : Int))), (1, (0, t)), (2, (0, bk)), (4, (0, isv)), (5, (0, k))] _ _
                  refine hd_goto pkX19_gather rfl ?_
                  refine m_sub [(0, (2, ((2514 : Nat) : Int))), (1, (0, t)), (2, (0, bk)), (3, (0, (s9 + 1)))] (List.forall_mem_cons.mpr ⟨rfl, List.forall_mem_cons.mpr ⟨rfl, List.forall_mem_cons.mpr ⟨rfl, List.forall_mem_cons.mpr ⟨rfl, fun _ h => absurd h List.not_mem_nil⟩⟩⟩⟩) ?_
                  refine ih5  ((s9 + 1)) hs5 g5 ?_ ?_ ?_ ?_ ?_
                  · exact hO
                  · exact hf
                  · omega
                  · exact ⟨mn, e31, mn0, Int.le_trans mn1 (cP_m _ _ _ _), mp⟩
                  · omega
                · skip
                  refine hd_aload pkX19_gather rfl rfl (Int.natCast_nonneg _) ?_
                  refine hd_getR (n := 2532) pkX19_gather rfl (g5.cell 0 rfl).1 (g5.cell 0 rfl).2.1 (g5.ref 17 rfl) ?_
                  refine hd_aload pkX19_gather rfl rfl (Int.natCast_nonneg _) ?_
                  refine hd_getI pkX19_gather rfl (g5.cell 0 rfl).1 (g5.cell 0 rfl).2.1 (fun v12 ev12 rv12 => ?_)
                  have qv12 : mn = v12 := by rw [ev12]; exact e31.symm
                  subst qv12
                  refine hd_iload pkX19_gather rfl rfl ?_
                  refine hd_iast (n := 80) pkX19_gather rfl (g5.cell 18 rfl) (by decide) (by omega) (by omega) (fun hh13 ehh13 => ?_)
                  have ghh13 : Str t19 r19 hh13 := by rw [ehh13]; exact g5.setA rfl
                  have hO := hO.trans ((Only.wr ehh13).mono (by decide))
                  have hf := fun (j : Int) (a : 0 ≤ j) (b : j ≠ 31) => ((Only.wr ehh13).ga (d := 2514) (by decide) j).trans (hf j a b)
                  have e31 := ((Only.wr ehh13).ga (d := 2514) (by decide) 31).trans e31
                  have mpN : ∀ i : Int, 0 ≤ i → i < mn + 1 → -400 ≤ ga hh13 2532 i ∧ ga hh13 2532 i ≤ 800 := fun i a b => by
                    rw [ga_wr ehh13 mn0 a]
                    by_cases q : i = mn
                    · rw [if_pos q]
                      omega
                    · rw [if_neg q]
                      exact mp i a (by omega)
                  have isv9 : cP h t bk s9 + 1 ≤ cP h t bk (s9 + 1) := by omega
                  refine hd_aload pkX19_gather rfl rfl (Int.natCast_nonneg _) ?_
                  refine hd_dup pkX19_gather rfl rfl ?_
                  refine hd_getI pkX19_gather rfl (ghh13.cell 0 rfl).1 (ghh13.cell 0 rfl).2.1 (fun v14 ev14 rv14 => ?_)
                  have qv14 : mn = v14 := by rw [ev14]; exact e31.symm
                  subst qv14
                  refine hd_ipush (z := 1) pkX19_gather rfl ?_
                  refine hd_iadd pkX19_gather rfl (by omega) ?_
                  refine hd_putI pkX19_gather rfl (ghh13.cell 0 rfl).1 (ghh13.cell 0 rfl).2.1 (fun hh15 ehh15 => ?_)
                  have ghh15 : Str t19 r19 hh15 := by rw [ehh15]; exact ghh13.setF rfl
                  have hO := hO.trans ((Only.wr ehh15).mono (by decide))
                  have hf := fun (j : Int) (a : 0 ≤ j) (b : j ≠ 31) => ((ga_wr ehh15 (by decide) a).trans (if_neg b)).trans (hf j a b)
                  have e31 : ga hh15 2514 31 = mn + 1 := (ga_wr ehh15 (by decide) (by decide)).trans (if_pos rfl)
                  have mpN := fun (i : Int) (a : 0 ≤ i) (b : i < mn + 1) => (by rw [(Only.wr ehh15).ga (d := 2532) (by decide)]; exact mpN i a b : -400 ≤ ga hh15 2532 i ∧ ga hh15 2532 i ≤ 800)
                  refine hd_iinc (z := 1) pkX19_gather rfl rfl (by omega) rfl ?_
                  change MW _ _ _ _ _ [(3, (0, (s9 + 1))), (0, (2, ((2514 : Nat) : Int))), (1, (0, t)), (2, (0, bk)), (4, (0, isv)), (5, (0, k))] _ _
                  refine hd_goto pkX19_gather rfl ?_
                  refine m_sub [(0, (2, ((2514 : Nat) : Int))), (1, (0, t)), (2, (0, bk)), (3, (0, (s9 + 1)))] (List.forall_mem_cons.mpr ⟨rfl, List.forall_mem_cons.mpr ⟨rfl, List.forall_mem_cons.mpr ⟨rfl, List.forall_mem_cons.mpr ⟨rfl, fun _ h => absurd h List.not_mem_nil⟩⟩⟩⟩) ?_
                  refine ih5  ((s9 + 1)) hh15 ghh15 ?_ ?_ ?_ ?_ ?_
                  · exact hO
                  · exact hf
                  · omega
                  · exact ⟨mn + 1, e31, by omega, by have := isv9; omega, mpN⟩
                  · omega
              · skip
                refine hd_ipush (z := 0) pkX19_gather rfl ?_
                refine hd_istore pkX19_gather rfl rfl ?_
                change MW _ _ _ _ _ [(6, (0, 0)), (0, (2, ((2514 : Nat) : Int))), (1, (0, t)), (2, (0, bk)), (3, (0, s9)), (4, (0, isv)), (5, (0, k))] _ _
                have lp28 : ∀ (N28 : Nat) (isv c : Int), (0 ≤ c ∧ c ≤ cn) → ((isv = 0 ∨ (isv = 1 ∧ cP h t bk s9 + 1 ≤ cP h t bk (s9 + 1)))) → cn - c < (N28 : Int) → MW KX19_gather Q 0 0 (pcA pgX19_gather 28) [(0, (2, ((2514 : Nat) : Int))), (1, (0, t)), (2, (0, bk)), (3, (0, s9)), (4, (0, isv)), (5, (0, k)), (6, (0, c))] [] hs5 := by
                  intro N28
                  induction N28 with
                  | zero => intro isv c c0 iv hm28; exfalso; omega
                  | succ N28 ih28 =>
                    intro isv c c0 iv hm28
                    refine hd_iload pkX19_gather rfl rfl ?_
                    refine hd_aload pkX19_gather rfl rfl (Int.natCast_nonneg _) ?_
                    refine hd_getI pkX19_gather rfl (g5.cell 0 rfl).1 (g5.cell 0 rfl).2.1 (fun v16 ev16 rv16 => ?_)
                    have qv16 : cn = v16 := by rw [ev16]; exact ((hf 2 (by decide) (by decide)).trans sn.1.1).symm
                    subst qv16
                    refine hd_ic_ge pkX19_gather rfl (fun c17 => ?_) (fun c17 => ?_)
                    · skip
                      refine hd_iinc (z := 1) pkX19_gather rfl rfl (by omega) rfl ?_
                      change MW _ _ _ _ _ [(5, (0, (k + 1))), (0, (2, ((2514 : Nat) : Int))), (1, (0, t)), (2, (0, bk)), (3, (0, s9)), (4, (0, isv)), (6, (0, c))] _ _
                      refine hd_goto pkX19_gather rfl ?_
                      refine m_sub [(0, (2, ((2514 : Nat) : Int))), (1, (0, t)), (2, (0, bk)), (3, (0, s9)), (4, (0, isv)), (5, (0, (k + 1)))] (List.forall_mem_cons.mpr ⟨rfl, List.forall_mem_cons.mpr ⟨rfl, List.forall_mem_cons.mpr ⟨rfl, List.forall_mem_cons.mpr ⟨rfl, List.forall_mem_cons.mpr ⟨rfl, List.forall_mem_cons.mpr ⟨rfl, fun _ h => absurd h List.not_mem_nil⟩⟩⟩⟩⟩⟩) ?_
                      refine ih14  (isv) ((k + 1)) ?_ ?_ ?_
                      · omega
                      · omega
                      · omega
                    · skip
                      have cut57 : ∀ (i4 : Int), ((i4 = 0 ∨ (i4 = 1 ∧ cP h t bk s9 + 1 ≤ cP h t bk (s9 + 1)))) → MW KX19_gather Q 0 0 (pcA pgX19_gather 57) [(0, (2, ((2514 : Nat) : Int))), (1, (0, t)), (2, (0, bk)), (3, (0, s9)), (4, (0, isv)), (5, (0, k)), (6, (0, c))] [(0, i4)] hs5 := by
                        intro i4 i4v
                        refine hd_istore pkX19_gather rfl rfl ?_
                        change MW _ _ _ _ _ [(4, (0, i4)), (0, (2, ((2514 : Nat) : Int))), (1, (0, t)), (2, (0, bk)), (3, (0, s9)), (5, (0, k)), (6, (0, c))] _ _
                        refine hd_iinc (z := 1) pkX19_gather rfl rfl (by omega) rfl ?_
                        change MW _ _ _ _ _ [(6, (0, (c + 1))), (4, (0, i4)), (0, (2, ((2514 : Nat) : Int))), (1, (0, t)), (2, (0, bk)), (3, (0, s9)), (5, (0, k))] _ _
                        refine hd_goto pkX19_gather rfl ?_
                        refine m_sub [(0, (2, ((2514 : Nat) : Int))), (1, (0, t)), (2, (0, bk)), (3, (0, s9)), (4, (0, i4)), (5, (0, k)), (6, (0, (c + 1)))] (List.forall_mem_cons.mpr ⟨rfl, List.forall_mem_cons.mpr ⟨rfl, List.forall_mem_cons.mpr ⟨rfl, List.forall_mem_cons.mpr ⟨rfl, List.forall_mem_cons.mpr ⟨rfl, List.forall_mem_cons.mpr ⟨rfl, List.forall_mem_cons.mpr ⟨rfl, fun _ h => absurd h List.not_mem_nil⟩⟩⟩⟩⟩⟩⟩) ?_
                        refine ih28  (i4) ((c + 1)) ?_ ?_ ?_
                        · omega
                        · exact i4v
                        · omega
                      refine hd_iload pkX19_gather rfl rfl ?_
                      refine hd_if_ne pkX19_gather rfl (fun c18 => ?_) (fun c18 => ?_)
                      · skip
                        refine hd_ipush (z := 1) pkX19_gather rfl ?_
                        refine hd_goto pkX19_gather rfl ?_
                        refine cut57 (1) ?_
                        · omega
                      · skip
                        refine hd_aload pkX19_gather rfl rfl (Int.natCast_nonneg _) ?_
                        refine hd_getR (n := 2517) pkX19_gather rfl (g5.cell 0 rfl).1 (g5.cell 0 rfl).2.1 (g5.ref 2 rfl) ?_
                        refine hd_iload pkX19_gather rfl rfl ?_
                        refine hd_iald (n := 14) pkX19_gather rfl (g5.cell 3 rfl) (by omega) (by omega) (fun v19 ev19 rv19 => ?_)
                        have ra9 : 0 ≤ v19 ∧ v19 ≤ 400 := by rw [ev19, hO.ga (by decide)]; exact (sn.1.2.2.1 c (by omega) (by omega)).1
                        obtain ⟨av, qv19⟩ : ∃ x : Int, x = v19 := ⟨_, rfl⟩
                        have eav : av = ga h 2517 c := qv19.trans (ev19.trans (hO.ga (by decide) _))
                        subst qv19
                        have cut53 : ∀ (ps : Int), ((ps = av → cP h t bk s9 + 1 ≤ cP h t bk (s9 + 1))) → MW KX19_gather Q 0 0 (pcA pgX19_gather 53) [(0, (2, ((2514 : Nat) : Int))), (1, (0, t)), (2, (0, bk)), (3, (0, s9)), (4, (0, isv)), (5, (0, k)), (6, (0, c))] [(0, ps), (0, av)] hs5 := by
                          intro ps psv
                          refine hd_ic_ne pkX19_gather rfl (fun c20 => ?_) (fun c20 => ?_)
                          · skip
                            refine hd_ipush (z := 0) pkX19_gather rfl ?_
                            refine cut57 (0) ?_
                            · omega
                          · skip
                            refine hd_ipush (z := 1) pkX19_gather rfl ?_
                            refine hd_goto pkX19_gather rfl ?_
                            refine cut57 (1) ?_
                            · omega
                        refine hd_iload pkX19_gather rfl rfl ?_
                        refine hd_if_eq pkX19_gather rfl (fun c21 => ?_) (fun c21 => ?_)
                        · skip
                          refine hd_iload pkX19_gather rfl rfl ?_
                          refine hd_aload pkX19_gather rfl rfl (Int.natCast_nonneg _) ?_
                          refine hd_getR (n := 2521) pkX19_gather rfl (g5.cell 0 rfl).1 (g5.cell 0 rfl).2.1 (g5.ref 6 rfl) ?_
                          refine hd_iload pkX19_gather rfl rfl ?_
                          refine hd_iald (n := 30) pkX19_gather rfl (g5.cell 7 rfl) (by omega) (by omega) (fun v22 ev22 rv22 => ?_)
                          have tb9 := (sn.2.1.2 t ht.1 ht.2).2.2.2 (k - 5 * t) (by omega) (by rw [← hax]; omega)
                          rw [show 5 * t + (k - 5 * t) = k by omega] at tb9
                          have bh : 0 ≤ v22 ∧ v22 ≤ 240 := by rw [ev22, hO.ga (by decide)]; omega
                          obtain ⟨bv, qv22⟩ : ∃ x : Int, x = v22 := ⟨_, rfl⟩
                          have ebv : bv = ga h 2521 k := qv22.trans (ev22.trans (hO.ga (by decide) _))
                          subst qv22
                          refine hd_isub pkX19_gather rfl (by omega) ?_
                          refine cut53 ((s9 - bv)) ?_
                          · intro w
                            refine cP_hit (i := k - 5 * t) (c := c) ⟨by omega, by omega⟩ ⟨by omega, by omega⟩ ?_
                            unfold pq
                            rw [if_pos (by omega), show 5 * t + (k - 5 * t) = k by omega, ← eav, ← ebv]
                            omega
                        · skip
                          refine hd_iload pkX19_gather rfl rfl ?_
                          refine hd_aload pkX19_gather rfl rfl (Int.natCast_nonneg _) ?_
                          refine hd_getR (n := 2521) pkX19_gather rfl (g5.cell 0 rfl).1 (g5.cell 0 rfl).2.1 (g5.ref 6 rfl) ?_
                          refine hd_iload pkX19_gather rfl rfl ?_
                          refine hd_iald (n := 30) pkX19_gather rfl (g5.cell 7 rfl) (by omega) (by omega) (fun v23 ev23 rv23 => ?_)
                          have tb9 := (sn.2.1.2 t ht.1 ht.2).2.2.2 (k - 5 * t) (by omega) (by rw [← hax]; omega)
                          rw [show 5 * t + (k - 5 * t) = k by omega] at tb9
                          have bh : 0 ≤ v23 ∧ v23 ≤ 240 := by rw [ev23, hO.ga (by decide)]; omega
                          obtain ⟨bv, qv23⟩ : ∃ x : Int, x = v23 := ⟨_, rfl⟩
                          have ebv : bv = ga h 2521 k := qv23.trans (ev23.trans (hO.ga (by decide) _))
                          subst qv23
                          refine hd_iadd pkX19_gather rfl (by omega) ?_
                          refine hd_goto pkX19_gather rfl ?_
                          refine cut53 ((s9 + bv)) ?_
                          · intro w
                            refine cP_hit (i := k - 5 * t) (c := c) ⟨by omega, by omega⟩ ⟨by omega, by omega⟩ ?_
                            unfold pq
                            rw [if_neg (by omega), show 5 * t + (k - 5 * t) = k by omega, ← eav, ← ebv]
                            omega
                refine m_sub [(0, (2, ((2514 : Nat) : Int))), (1, (0, t)), (2, (0, bk)), (3, (0, s9)), (4, (0, isv)), (5, (0, k)), (6, (0, 0))] (List.forall_mem_cons.mpr ⟨rfl, List.forall_mem_cons.mpr ⟨rfl, List.forall_mem_cons.mpr ⟨rfl, List.forall_mem_cons.mpr ⟨rfl, List.forall_mem_cons.mpr ⟨rfl, List.forall_mem_cons.mpr ⟨rfl, List.forall_mem_cons.mpr ⟨rfl, fun _ h => absurd h List.not_mem_nil⟩⟩⟩⟩⟩⟩⟩) ?_
                refine lp28 ((cn - (0)) + 1).toNat (isv) (0) ?_ ?_ ?_
                · omega
                · omega
                · omega
        refine m_sub [(0, (2, ((2514 : Nat) : Int))), (1, (0, t)), (2, (0, bk)), (3, (0, s9)), (4, (0, 0)), (5, (0, (5 * t)))] (List.forall_mem_cons.mpr ⟨rfl, List.forall_mem_cons.mpr ⟨rfl, List.forall_mem_cons.mpr ⟨rfl, List.forall_mem_cons.mpr ⟨rfl, List.forall_mem_cons.mpr ⟨rfl, List.forall_mem_cons.mpr ⟨rfl, fun _ h => absurd h List.not_mem_nil⟩⟩⟩⟩⟩⟩) ?_
        refine lp14 ((5 * t + ax - ((5 * t))) + 1).toNat (0) ((5 * t)) ?_ ?_ ?_
        · omega
        · omega
        · omega
  refine m_sub [(0, (2, ((2514 : Nat) : Int))), (1, (0, t)), (2, (0, bk)), (3, (0, (-400)))] (List.forall_mem_cons.mpr ⟨rfl, List.forall_mem_cons.mpr ⟨rfl, List.forall_mem_cons.mpr ⟨rfl, List.forall_mem_cons.mpr ⟨rfl, fun _ h => absurd h List.not_mem_nil⟩⟩⟩⟩) ?_
  refine lp5 (((801 : Int) - ((-400))) + 1).toNat ((-400)) hh1 ghh1 ?_ ?_ ?_ ?_ ?_
  · exact hO
  · exact hf
  · omega
  · exact ⟨0, e31, Int.le_refl 0, (cP_b _ _ _ _).1, fun i a b => by omega⟩
  · omega
