set_option maxRecDepth 20000 in
set_option maxHeartbeats 8000000 in
theorem h_X14_isFirm {h : MH} {M : Int} (j4 : J4 h M) (g : Str t14 r14 h) : MCal KX14_isFirm yX14_isFirm 0 0 [(2, ((2495 : Nat) : Int))] h (mRI fun v h' => (v = 0 ∨ v = 1) ∧ Rk h h' M ∧ ga h' 2495 16 ≠ 0 ∧ Sv4 h' M ∧ (v = 1 → ga h' 2495 18 = 4 * M)) := by
  refine MCal.ofMW (Or.inl rfl) ⟨cp_X14, rfl⟩ (Nat.le_of_ble_eq_true rfl) ?_
  generalize eQ : (mRI fun v h' => (v = 0 ∨ v = 1) ∧ Rk h h' M ∧ ga h' 2495 16 ≠ 0 ∧ Sv4 h' M ∧ (v = 1 → ga h' 2495 18 = 4 * M) : MO → MH → Prop) = Q
  change MW KX14_isFirm Q 0 0 (pcA pgX14_isFirm 0) [(0, (2, ((2495 : Nat) : Int)))] [] h
  refine hd_aload pkX14_isFirm rfl rfl (Int.natCast_nonneg _) ?_
  refine hd_callV pkX14_isFirm rfl (q := (KX14_solveAll, yX14_solveAll, 14, 0, 0)) rfl rfl rfl (As := []) (rest := []) (c := 2495) rfl rfl (Nat.le_of_ble_eq_true rfl) (g.cell 0 rfl).1 (g.cell 0 rfl).2.1 (h_X14_solveAll j4.1.1.1 j4.1.1.2 j4.1.2.1 j4.1.2.2.1 (fun j a b => j4.1.2.2.2 j a (by have := j4.1.1; omega)) j4.2 g) (hd_bV (fun hc1 ps => ?_))
  have rk := Rk.solve j4 ps.1 ps.2.1 ps.2.2.1 ps.2.2.2.1 ps.2.2.2.2
  have ghc1 : Str t14 r14 hc1 := g.rk rk
  have n16 := ps.2.2.2.1
  have sv := ps.2.2.2.2
  refine hd_aload pkX14_isFirm rfl rfl (Int.natCast_nonneg _) ?_
  refine hd_getI pkX14_isFirm rfl (ghc1.cell 0 rfl).1 (ghc1.cell 0 rfl).2.1 (fun v2 ev2 rv2 => ?_)
  obtain ⟨rn, qv2⟩ : ∃ rn : Int, rn = v2 := ⟨_, rfl⟩
  have er : ga hc1 2495 18 = rn := by rw [qv2, ev2]; rfl
  subst qv2
  refine hd_ipush (z := 4) pkX14_isFirm rfl ?_
  refine hd_aload pkX14_isFirm rfl rfl (Int.natCast_nonneg _) ?_
  refine hd_getI pkX14_isFirm rfl (ghc1.cell 0 rfl).1 (ghc1.cell 0 rfl).2.1 (fun v3 ev3 rv3 => ?_)
  have qv3 : M = v3 := by rw [ev3]; exact rk.2.2.1.1.2.1.symm
  subst qv3
  refine hd_imul pkX14_isFirm rfl (by have := j4.1.1; omega) ?_
  have cut12 : ∀ (bb : Int), ((bb = 1 ∧ rn = 4 * M) ∨ bb = 0) → MW KX14_isFirm Q 0 0 (pcA pgX14_isFirm 12) [(0, (2, ((2495 : Nat) : Int)))] [(0, bb)] hc1 := by
    intro bb bv
    refine hd_zret pkX14_isFirm rfl (by omega) ?_
    subst eQ
    refine ⟨rfl, rfl, ?_, rk, n16, sv, fun q => ?_⟩
    · rcases bv with ⟨a, _⟩ | a
      · exact Or.inr a
      · exact Or.inl a
    · have q1 : bb = 1 := q
      exact er.trans (by omega)
  refine hd_ic_ne pkX14_isFirm rfl (fun c4 => ?_) (fun c4 => ?_)
  · skip
    refine hd_ipush (z := 0) pkX14_isFirm rfl ?_
    refine cut12 (0) ?_
    · omega
  · skip
    refine hd_ipush (z := 1) pkX14_isFirm rfl ?_
    refine hd_goto pkX14_isFirm rfl ?_
    refine cut12 (1) ?_
    · omega
set_option maxRecDepth 20000 in
set_option maxHeartbeats 8000000 in
theorem h_X14_moves {h : MH} {k what x M : Int} {T : Int → Int → Rat} (js : J4s h M) (lk0 : Lk4 h M T) (hk : 0 ≤ k ∧ k < M) (hw : 0 ≤ what ∧ what ≤ 1) (hx : 0 ≤ x ∧ x ≤ 4) (g : Str t14 r14 h) : MCal KX14_moves yX14_moves 0 0 [(2, ((2495 : Nat) : Int)), (0, k), (0, what), (0, x)] h (mRI fun v h' => (v = 0 ∨ v = 1) ∧ Ch 70 2496 2497 [677, 678, 681, 682, 672, 673, 674, 675, 676] h h') := by
  refine MCal.ofMW (Or.inl rfl) ⟨cp_X14, rfl⟩ (Nat.le_of_ble_eq_true rfl) ?_
  generalize eQ : (mRI fun v h' => (v = 0 ∨ v = 1) ∧ Ch 70 2496 2497 [677, 678, 681, 682, 672, 673, 674, 675, 676] h h' : MO → MH → Prop) = Q
  change MW KX14_moves Q 0 0 (pcA pgX14_moves 0) [(0, (2, ((2495 : Nat) : Int))), (1, (0, k)), (2, (0, what)), (3, (0, x))] [] h
  refine hd_locI (i := 1) rfl (fun rk => ?_)
  refine hd_locI (i := 2) rfl (fun rwhat => ?_)
  refine hd_locI (i := 3) rfl (fun rx => ?_)
  have hM := js.1
  have htl : ∀ j : Int, 0 ≤ j → j < 4 * M → ga h 2508 j = -1 ∨ (0 ≤ ga h 2508 j ∧ ga h 2508 j < 4 * M) := lk0.2.2
  refine hd_ipush (z := 0) pkX14_moves rfl ?_
  refine hd_istore pkX14_moves rfl rfl ?_
  change MW _ _ _ _ _ [(4, (0, 0)), (0, (2, ((2495 : Nat) : Int))), (1, (0, k)), (2, (0, what)), (3, (0, x))] _ _
  have lp2 : ∀ (N2 : Nat) (f : Int) (hf : MH), Str t14 r14 hf → (Ch 70 2496 2497 [677, 678, 681, 682, 672, 673, 674, 675, 676] h hf) → (Lk4 hf M T) → (0 ≤ f ∧ f ≤ 4 * M) → 4 * M - f < (N2 : Int) → MW KX14_moves Q 0 0 (pcA pgX14_moves 2) [(0, (2, ((2495 : Nat) : Int))), (1, (0, k)), (2, (0, what)), (3, (0, x)), (4, (0, f))] [] hf := by
    intro N2
    induction N2 with
    | zero => intro f hf g2 hC lk f0 hm2; exfalso; omega
    | succ N2 ih2 =>
      intro f hf g2 hC lk f0 hm2
      refine hd_iload pkX14_moves rfl rfl ?_
      refine hd_ipush (z := 4) pkX14_moves rfl ?_
      refine hd_aload pkX14_moves rfl rfl (Int.natCast_nonneg _) ?_
      refine hd_getI pkX14_moves rfl (g2.cell 0 rfl).1 (g2.cell 0 rfl).2.1 (fun v1 ev1 rv1 => ?_)
      have qv1 : M = v1 := by rw [ev1]; exact ((hC.1.ga (by decide) _).trans js.2.1).symm
      subst qv1
      refine hd_imul pkX14_moves rfl (by have := js.1; omega) ?_
      refine hd_ic_ge pkX14_moves rfl (fun c2 => ?_) (fun c2 => ?_)
      · skip
        refine hd_ipush (z := 0) pkX14_moves rfl ?_
        refine hd_zret pkX14_moves rfl (by omega) ?_
        subst eQ
        exact ⟨rfl, rfl, Or.inl rfl, hC⟩
      · skip
        have cut97 : ∀ (_ : True) (hj97 : MH), Str t14 r14 hj97 → (Ch 70 2496 2497 [677, 678, 681, 682, 672, 673, 674, 675, 676] h hj97) → (Lk4 hj97 M T) → MW KX14_moves Q 0 0 (pcA pgX14_moves 97) [(0, (2, ((2495 : Nat) : Int))), (1, (0, k)), (2, (0, what)), (3, (0, x)), (4, (0, f))] [] hj97 := by
          intro _ hj97 gc97 hC lk
          refine hd_iinc (z := 1) pkX14_moves rfl rfl (by omega) rfl ?_
          change MW _ _ _ _ _ [(4, (0, (f + 1))), (0, (2, ((2495 : Nat) : Int))), (1, (0, k)), (2, (0, what)), (3, (0, x))] _ _
          refine hd_goto pkX14_moves rfl ?_
          refine m_sub [(0, (2, ((2495 : Nat) : Int))), (1, (0, k)), (2, (0, what)), (3, (0, x)), (4, (0, (f + 1)))] (List.forall_mem_cons.mpr ⟨rfl, List.forall_mem_cons.mpr ⟨rfl, List.forall_mem_cons.mpr ⟨rfl, List.forall_mem_cons.mpr ⟨rfl, List.forall_mem_cons.mpr ⟨rfl, fun _ h => absurd h List.not_mem_nil⟩⟩⟩⟩⟩) ?_
          refine ih2  ((f + 1)) hj97 gc97 ?_ ?_ ?_ ?_
          · exact hC
          · exact lk
          · omega
          · omega
        refine hd_aload pkX14_moves rfl rfl (Int.natCast_nonneg _) ?_
        refine hd_getR (n := 2508) pkX14_moves rfl (g2.cell 0 rfl).1 (g2.cell 0 rfl).2.1 (g2.ref 12 rfl) ?_
        refine hd_iload pkX14_moves rfl rfl ?_
        refine hd_iald (n := 12) pkX14_moves rfl (g2.cell 13 rfl) (by omega) (by omega) (fun v3 ev3 rv3 => ?_)
        refine hd_ipush (z := (-1)) pkX14_moves rfl ?_
        refine hd_ic_ne pkX14_moves rfl (fun c4 => ?_) (fun c4 => ?_)
        · skip
          refine cut97 trivial hf g2 ?_ ?_
          · exact hC
          · exact lk
        · skip
          refine hd_aload pkX14_moves rfl rfl (Int.natCast_nonneg _) ?_
          refine hd_ipush (z := 681) pkX14_moves rfl ?_
          refine hd_lpush (z := 0) pkX14_moves rfl ?_
          refine hd_callV pkX14_moves rfl (q := (KX14_small, yX14_small, 14, 2, 0)) rfl rfl rfl (As := [(0, 681), (1, 0)]) (rest := []) (c := 2495) rfl rfl (Nat.le_of_ble_eq_true rfl) (g2.cell 0 rfl).1 (g2.cell 0 rfl).2.1 (h_X14_small (by decide) (by decide) (by decide) g2) (hd_bV (fun hc5 ps => ?_))
          have ghc5 : Str t14 r14 hc5 := g2.only ps.1.1 (by decide)
          have hC := hC.trans (ps.1.mono (by decide))
          have lk := lk.ch ps.1 (by decide)
          have nA := nv_small ps
          refine hd_aload pkX14_moves rfl rfl (Int.natCast_nonneg _) ?_
          refine hd_ipush (z := 682) pkX14_moves rfl ?_
          refine hd_lpush (z := 1) pkX14_moves rfl ?_
          refine hd_callV pkX14_moves rfl (q := (KX14_small, yX14_small, 14, 2, 0)) rfl rfl rfl (As := [(0, 682), (1, 1)]) (rest := []) (c := 2495) rfl rfl (Nat.le_of_ble_eq_true rfl) (ghc5.cell 0 rfl).1 (ghc5.cell 0 rfl).2.1 (h_X14_small (by decide) (by decide) (by decide) ghc5) (hd_bV (fun hc6 ps => ?_))
          have ghc6 : Str t14 r14 hc6 := ghc5.only ps.1.1 (by decide)
          have hC := hC.trans (ps.1.mono (by decide))
          have lk := lk.ch ps.1 (by decide)
          have nA := nA.keep (by decide) ps.1 (by decide) (nm1 (by decide))
          have VS : Hr 70 2496 2497 hc6 681 682 0 := ⟨nA, nv_small ps, by decide⟩
          refine hd_ipush (z := 0) pkX14_moves rfl ?_
          refine hd_istore pkX14_moves rfl rfl ?_
          change MW _ _ _ _ _ [(5, (0, 0)), (0, (2, ((2495 : Nat) : Int))), (1, (0, k)), (2, (0, what)), (3, (0, x)), (4, (0, f))] _ _
          have lp24 : ∀ (N24 : Nat) (u : Int) (hu : MH), Str t14 r14 hu → (Ch 70 2496 2497 [677, 678, 681, 682, 672, 673, 674, 675, 676] h hu) → (Lk4 hu M T) → (0 ≤ u ∧ u ≤ 4) → (∃ r : Rat, Hr 70 2496 2497 hu 681 682 r ∧ SzQ (14 * u.toNat + 1) r) → (4 : Int) - u < (N24 : Int) → MW KX14_moves Q 0 0 (pcA pgX14_moves 24) [(0, (2, ((2495 : Nat) : Int))), (1, (0, k)), (2, (0, what)), (3, (0, x)), (4, (0, f)), (5, (0, u))] [] hu := by
            intro N24
            induction N24 with
            | zero => intro u hu g24 hC lk u0 vs hm24; exfalso; omega
            | succ N24 ih24 =>
              intro u hu g24 hC lk u0 vs hm24
              obtain ⟨r, VS, bS⟩ := vs
              refine hd_iload pkX14_moves rfl rfl ?_
              refine hd_ipush (z := 4) pkX14_moves rfl ?_
              refine hd_ic_ge pkX14_moves rfl (fun c7 => ?_) (fun c7 => ?_)
              · skip
                refine hd_aload pkX14_moves rfl rfl (Int.natCast_nonneg _) ?_
                refine hd_getR (n := 2497) pkX14_moves rfl (g24.cell 0 rfl).1 (g24.cell 0 rfl).2.1 (g24.ref 1 rfl) ?_
                refine hd_ipush (z := 681) pkX14_moves rfl ?_
                refine hd_iald (n := 690) pkX14_moves rfl (g24.cell 2 rfl) (by omega) (by omega) (fun v8 ev8 rv8 => ?_)
                refine hd_if_eq pkX14_moves rfl (fun c9 => ?_) (fun c9 => ?_)
                · skip
                  refine m_sub [(0, (2, ((2495 : Nat) : Int))), (1, (0, k)), (2, (0, what)), (3, (0, x)), (4, (0, f))] (List.forall_mem_cons.mpr ⟨rfl, List.forall_mem_cons.mpr ⟨rfl, List.forall_mem_cons.mpr ⟨rfl, List.forall_mem_cons.mpr ⟨rfl, List.forall_mem_cons.mpr ⟨rfl, fun _ h => absurd h List.not_mem_nil⟩⟩⟩⟩⟩) ?_
                  refine cut97 trivial hu g24 ?_ ?_
                  · exact hC
                  · exact lk
                · skip
                  refine hd_ipush (z := 1) pkX14_moves rfl ?_
                  refine hd_zret pkX14_moves rfl (by omega) ?_
                  subst eQ
                  exact ⟨rfl, rfl, Or.inr rfl, hC⟩
              · skip
                refine hd_ipush (z := 4) pkX14_moves rfl ?_
                refine hd_iload pkX14_moves rfl rfl ?_
                refine hd_imul pkX14_moves rfl (by omega) ?_
                refine hd_iload pkX14_moves rfl rfl ?_
                refine hd_iadd pkX14_moves rfl (by omega) ?_
                refine hd_istore pkX14_moves rfl rfl ?_
                change MW _ _ _ _ _ [(6, (0, ((4 * k) + u))), (0, (2, ((2495 : Nat) : Int))), (1, (0, k)), (2, (0, what)), (3, (0, x)), (4, (0, f)), (5, (0, u))] _ _
                refine hd_aload pkX14_moves rfl rfl (Int.natCast_nonneg _) ?_
                refine hd_iload pkX14_moves rfl rfl ?_
                refine hd_iload pkX14_moves rfl rfl ?_
                refine hd_iload pkX14_moves rfl rfl ?_
                refine hd_iload pkX14_moves rfl rfl ?_
                have jj := js.only hC.1 (by decide)
                have bL := (jj.2.2.1 k hk.1 hk.2).1
                have bE := (jj.2.2.1 k hk.1 hk.2).2
                obtain ⟨cq, ecq⟩ : ∃ c : Rat, c = coQ what x (ga hu 2498 k) (ga hu 2499 k) u := ⟨_, rfl⟩
                refine hd_callV pkX14_moves rfl (q := (KX14_coefficient, yX14_coefficient, 14, 4, 0)) rfl rfl rfl (As := [(0, k), (0, what), (0, x), (0, u)]) (rest := []) (c := 2495) rfl rfl (Nat.le_of_ble_eq_true rfl) (g24.cell 0 rfl).1 (g24.cell 0 rfl).2.1 (h_X14_coefficient hk.1 (by omega) bL bE hx ⟨by omega, by omega⟩ (by omega) g24) (hd_bV (fun hc10 pf => ?_))
                have ghc10 : Str t14 r14 hc10 := g24.only pf.1.1 (by decide)
                have hC := hC.trans (pf.1.mono (by decide))
                have lk := lk.ch pf.1 (by decide)
                have VS := VS.keep (by decide) pf.1 (by decide) (by decide) (by decide) (by decide)
                have VU := pf.2.r ecq.symm
                have bU := coQ_sz (w := what) (j := u) hx bL bE
                rw [← ecq] at bU
                have cut82 : ∀ (_ : True) (hj82 : MH), Str t14 r14 hj82 → (Ch 70 2496 2497 [677, 678, 681, 682, 672, 673, 674, 675, 676] h hj82) → (Lk4 hj82 M T) → (Hr 70 2496 2497 hj82 681 682 r) → (∃ q : Rat, Hr 70 2496 2497 hj82 677 678 q ∧ SzQ 13 q) → MW KX14_moves Q 0 0 (pcA pgX14_moves 82) [(0, (2, ((2495 : Nat) : Int))), (1, (0, k)), (2, (0, what)), (3, (0, x)), (4, (0, f)), (5, (0, u)), (6, (0, ((4 * k) + u)))] [] hj82 := by
                  intro _ hj82 gc82 hC lk VS vu
                  obtain ⟨q, VU, bU⟩ := vu
                  refine hd_aload pkX14_moves rfl rfl (Int.natCast_nonneg _) ?_
                  refine hd_ipush (z := 681) pkX14_moves rfl ?_
                  refine hd_ipush (z := 682) pkX14_moves rfl ?_
                  refine hd_ipush (z := 677) pkX14_moves rfl ?_
                  refine hd_ipush (z := 678) pkX14_moves rfl ?_
                  refine hd_callV pkX14_moves rfl (q := (KX14_addFraction, yX14_addFraction, 14, 4, 0)) rfl rfl rfl (As := [(0, 681), (0, 682), (0, 677), (0, 678)]) (rest := []) (c := 2495) rfl rfl (Nat.le_of_ble_eq_true rfl) (gc82.cell 0 rfl).1 (gc82.cell 0 rfl).2.1 (h_X14_addFraction (m1 := 14 * u.toNat + 1) (m2 := 13) (by decide) (by decide) (by decide) (by decide) (by decide) (by decide) (by decide) (by decide) (by decide) (by decide) (by decide) (by decide) (by decide) VS VU bS.1 bS.2 bU.1 bU.2 (by omega) gc82) (hd_bV (fun hc11 pa => ?_))
                  have ghc11 : Str t14 r14 hc11 := gc82.only pa.1.1 (by decide)
                  have hC := hC.trans (pa.1.mono (by decide))
                  have lk := lk.ch pa.1 (by decide)
                  have VS := pa.2.r (rat_add _ _)
                  have bS := (bS.add bU).up (show 14 * u.toNat + 1 + 13 + 1 ≤ 14 * (u + 1).toNat + 1 by omega)
                  refine hd_iinc (z := 1) pkX14_moves rfl rfl (by omega) rfl ?_
                  change MW _ _ _ _ _ [(5, (0, (u + 1))), (0, (2, ((2495 : Nat) : Int))), (1, (0, k)), (2, (0, what)), (3, (0, x)), (4, (0, f)), (6, (0, ((4 * k) + u)))] _ _
                  refine hd_goto pkX14_moves rfl ?_
                  refine m_sub [(0, (2, ((2495 : Nat) : Int))), (1, (0, k)), (2, (0, what)), (3, (0, x)), (4, (0, f)), (5, (0, (u + 1)))] (List.forall_mem_cons.mpr ⟨rfl, List.forall_mem_cons.mpr ⟨rfl, List.forall_mem_cons.mpr ⟨rfl, List.forall_mem_cons.mpr ⟨rfl, List.forall_mem_cons.mpr ⟨rfl, List.forall_mem_cons.mpr ⟨rfl, fun _ h => absurd h List.not_mem_nil⟩⟩⟩⟩⟩⟩) ?_
                  refine ih24  ((u + 1)) hc11 ghc11 ?_ ?_ ?_ ?_ ?_
                  · exact hC
                  · exact lk
                  · omega
                  · exact ⟨_, VS, bS⟩
                  · omega
                refine hd_aload pkX14_moves rfl rfl (Int.natCast_nonneg _) ?_
                refine hd_getR (n := 2508) pkX14_moves rfl (ghc10.cell 0 rfl).1 (ghc10.cell 0 rfl).2.1 (ghc10.ref 12 rfl) ?_
                refine hd_iload pkX14_moves rfl rfl ?_
                refine hd_iald (n := 12) pkX14_moves rfl (ghc10.cell 13 rfl) (by omega) (by omega) (fun v12 ev12 rv12 => ?_)
                have qv12 : (ga h 2508 (4 * k + u)) = v12 := by rw [ev12]; exact (hC.1.ga (by decide) _).symm
                have ht9 := htl (4 * k + u) (by omega) (by omega)
                subst qv12
                refine hd_ipush (z := (-1)) pkX14_moves rfl ?_
                refine hd_ic_eq pkX14_moves rfl (fun c13 => ?_) (fun c13 => ?_)
                · skip
                  refine hd_iload pkX14_moves rfl rfl ?_
                  refine hd_iload pkX14_moves rfl rfl ?_
                  refine hd_ic_eq pkX14_moves rfl (fun c14 => ?_) (fun c14 => ?_)
                  · skip
                    refine m_sub [(0, (2, ((2495 : Nat) : Int))), (1, (0, k)), (2, (0, what)), (3, (0, x)), (4, (0, f)), (5, (0, u)), (6, (0, ((4 * k) + u)))] (List.forall_mem_cons.mpr ⟨rfl, List.forall_mem_cons.mpr ⟨rfl, List.forall_mem_cons.mpr ⟨rfl, List.forall_mem_cons.mpr ⟨rfl, List.forall_mem_cons.mpr ⟨rfl, List.forall_mem_cons.mpr ⟨rfl, List.forall_mem_cons.mpr ⟨rfl, fun _ h => absurd h List.not_mem_nil⟩⟩⟩⟩⟩⟩⟩) ?_
                    refine cut82 trivial hc10 ghc10 ?_ ?_ ?_ ?_
                    · exact hC
                    · exact lk
                    · exact VS
                    · exact ⟨_, VU, bU.up (by omega)⟩
                  · skip
                    refine hd_aload pkX14_moves rfl rfl (Int.natCast_nonneg _) ?_
                    refine hd_ipush (z := 677) pkX14_moves rfl ?_
                    refine hd_ipush (z := 678) pkX14_moves rfl ?_
                    refine hd_lpush (z := 0) pkX14_moves rfl ?_
                    refine hd_lpush (z := 1) pkX14_moves rfl ?_
                    refine hd_callV pkX14_moves rfl (q := (KX14_fraction, yX14_fraction, 14, 4, 0)) rfl rfl rfl (As := [(0, 677), (0, 678), (1, 0), (1, 1)]) (rest := []) (c := 2495) rfl rfl (Nat.le_of_ble_eq_true rfl) (ghc10.cell 0 rfl).1 (ghc10.cell 0 rfl).2.1 (h_X14_fraction (by decide) (by decide) (by decide) (by decide) (by decide) (by decide) (by decide) (by decide) (by decide) ghc10) (hd_bV (fun hc15 pf => ?_))
                    have ghc15 : Str t14 r14 hc15 := ghc10.only pf.1.1 (by decide)
                    have hC := hC.trans (pf.1.mono (by decide))
                    have lk := lk.ch pf.1 (by decide)
                    have VS := VS.keep (by decide) pf.1 (by decide) (by decide) (by decide) (by decide)
                    have VU := pf.2
                    have bU := divInt_sz1 (p := 0) (q := 1) ⟨by decide, by decide⟩ ⟨by decide, by decide⟩
                    refine m_sub [(0, (2, ((2495 : Nat) : Int))), (1, (0, k)), (2, (0, what)), (3, (0, x)), (4, (0, f)), (5, (0, u)), (6, (0, ((4 * k) + u)))] (List.forall_mem_cons.mpr ⟨rfl, List.forall_mem_cons.mpr ⟨rfl, List.forall_mem_cons.mpr ⟨rfl, List.forall_mem_cons.mpr ⟨rfl, List.forall_mem_cons.mpr ⟨rfl, List.forall_mem_cons.mpr ⟨rfl, List.forall_mem_cons.mpr ⟨rfl, fun _ h => absurd h List.not_mem_nil⟩⟩⟩⟩⟩⟩⟩) ?_
                    refine cut82 trivial hc15 ghc15 ?_ ?_ ?_ ?_
                    · exact hC
                    · exact lk
                    · exact VS
                    · exact ⟨_, VU, bU.up (by omega)⟩
                · skip
                  refine hd_aload pkX14_moves rfl rfl (Int.natCast_nonneg _) ?_
                  refine hd_ipush (z := 677) pkX14_moves rfl ?_
                  refine hd_ipush (z := 678) pkX14_moves rfl ?_
                  refine hd_aload pkX14_moves rfl rfl (Int.natCast_nonneg _) ?_
                  refine hd_getR (n := 2508) pkX14_moves rfl (ghc10.cell 0 rfl).1 (ghc10.cell 0 rfl).2.1 (ghc10.ref 12 rfl) ?_
                  refine hd_iload pkX14_moves rfl rfl ?_
                  refine hd_iald (n := 12) pkX14_moves rfl (ghc10.cell 13 rfl) (by omega) (by omega) (fun v16 ev16 rv16 => ?_)
                  have qv16 : (ga h 2508 (4 * k + u)) = v16 := by rw [ev16]; exact (hC.1.ga (by decide) _).symm
                  have ht9 := htl (4 * k + u) (by omega) (by omega)
                  subst qv16
                  refine hd_iload pkX14_moves rfl rfl ?_
                  refine hd_callS pkX14_moves rfl (q := (KX14_cell, yX14_cell, 14, 2, 1)) rfl rfl rfl (As := [(0, (ga h 2508 (4 * k + u))), (0, f)]) (rest := [(0, 678), (0, 677), (2, ((2495 : Nat) : Int))]) rfl rfl (Nat.le_of_ble_eq_true rfl) rfl (h_X14_cell ⟨by omega, by omega⟩ ⟨by omega, by omega⟩ ghc10) (hd_bI (fun w17 hc18 p19 => ?_))
                  obtain ⟨p19, ehc18⟩ := p19
                  replace ehc18 := ehc18.symm
                  subst ehc18
                  subst p19
                  refine hd_ipush (z := 336) pkX14_moves rfl ?_
                  refine hd_aload pkX14_moves rfl rfl (Int.natCast_nonneg _) ?_
                  refine hd_getR (n := 2508) pkX14_moves rfl (ghc10.cell 0 rfl).1 (ghc10.cell 0 rfl).2.1 (ghc10.ref 12 rfl) ?_
                  refine hd_iload pkX14_moves rfl rfl ?_
                  refine hd_iald (n := 12) pkX14_moves rfl (ghc10.cell 13 rfl) (by omega) (by omega) (fun v20 ev20 rv20 => ?_)
                  have qv20 : (ga h 2508 (4 * k + u)) = v20 := by rw [ev20]; exact (hC.1.ga (by decide) _).symm
                  have ht9 := htl (4 * k + u) (by omega) (by omega)
                  subst qv20
                  refine hd_iload pkX14_moves rfl rfl ?_
                  refine hd_callS pkX14_moves rfl (q := (KX14_cell, yX14_cell, 14, 2, 1)) rfl rfl rfl (As := [(0, (ga h 2508 (4 * k + u))), (0, f)]) (rest := [(0, 336), (0, (28 * (ga h 2508 (4 * k + u)) + f)), (0, 678), (0, 677), (2, ((2495 : Nat) : Int))]) rfl rfl (Nat.le_of_ble_eq_true rfl) rfl (h_X14_cell ⟨by omega, by omega⟩ ⟨by omega, by omega⟩ ghc10) (hd_bI (fun w21 hc22 p23 => ?_))
                  obtain ⟨p23, ehc22⟩ := p23
                  replace ehc22 := ehc22.symm
                  subst ehc22
                  subst p23
                  refine hd_iadd pkX14_moves rfl (by omega) ?_
                  have PT := lk.1 (ga h 2508 (4 * k + u)) f (by omega) (by omega) (by omega) (by omega)
                  have bT := lk.2.1 (ga h 2508 (4 * k + u)) f (by omega) (by omega) (by omega) (by omega)
                  refine hd_callV pkX14_moves rfl (q := (KX14_timesFraction, yX14_timesFraction, 14, 4, 0)) rfl rfl rfl (As := [(0, 677), (0, 678), (0, (28 * (ga h 2508 (4 * k + u)) + f)), (0, (336 + (28 * (ga h 2508 (4 * k + u)) + f)))]) (rest := []) (c := 2495) rfl rfl (Nat.le_of_ble_eq_true rfl) (ghc10.cell 0 rfl).1 (ghc10.cell 0 rfl).2.1 (h_X14_timesFraction (m1 := 1) (m2 := 12) (by decide) (by decide) (by decide) (by decide) (by omega) (by omega) (by omega) (by omega) (by decide) (by decide) (by decide) (by simp only [List.mem_cons, List.not_mem_nil, or_false, not_or]; omega) (by simp only [List.mem_cons, List.not_mem_nil, or_false, not_or]; omega) VU PT bU.1 bU.2 bT.1 bT.2 (by decide) ghc10) (hd_bV (fun hc24 pt => ?_))
                  have ghc24 : Str t14 r14 hc24 := ghc10.only pt.1.1 (by decide)
                  have hC := hC.trans (pt.1.mono (by decide))
                  have lk := lk.ch pt.1 (by decide)
                  have VS := VS.keep (by decide) pt.1 (by decide) (by decide) (by decide) (by decide)
                  have VU := pt.2.r (rat_mul _ _)
                  have bU := bU.mul bT
                  refine hd_aload pkX14_moves rfl rfl (Int.natCast_nonneg _) ?_
                  refine hd_getR (n := 2497) pkX14_moves rfl (ghc24.cell 0 rfl).1 (ghc24.cell 0 rfl).2.1 (ghc24.ref 1 rfl) ?_
                  refine hd_ipush (z := 677) pkX14_moves rfl ?_
                  refine hd_aload pkX14_moves rfl rfl (Int.natCast_nonneg _) ?_
                  refine hd_getR (n := 2497) pkX14_moves rfl (ghc24.cell 0 rfl).1 (ghc24.cell 0 rfl).2.1 (ghc24.ref 1 rfl) ?_
                  refine hd_ipush (z := 677) pkX14_moves rfl ?_
                  refine hd_iald (n := 690) pkX14_moves rfl (ghc24.cell 2 rfl) (by omega) (by omega) (fun v25 ev25 rv25 => ?_)
                  have e55 := ev25
                  have w55 : -1 ≤ v25 ∧ v25 ≤ 1 := by rw [ev25]; exact VU.1.sg
                  refine hd_ineg pkX14_moves rfl (by omega) ?_
                  refine hd_iast (n := 690) pkX14_moves rfl (ghc24.cell 2 rfl) (by decide) (by omega) (by omega) (fun hh26 ehh26 => ?_)
                  have ghh26 : Str t14 r14 hh26 := by rw [ehh26]; exact ghc24.setA rfl
                  have CW : Ch 70 2496 2497 [677] hc24 hh26 := by rw [ehh26]; exact (Ch.refl _ _ _ _ _).sgn (by decide) (by decide) inS
                  have lk := lk.ch CW (by decide)
                  have hC := hC.trans (CW.mono (by decide))
                  have VS := VS.keep (by decide) CW (by decide) (by decide) (by decide) (by decide)
                  have VU : Hr 70 2496 2497 hh26 677 678 (-(cq * T (ga h 2508 (4 * k + u)) f)) := by
                    rw [ehh26]
                    exact VU.neg e55 (by decide) (by decide) (by decide) (by decide)
                  have bU := bU.neg
                  refine hd_goto pkX14_moves rfl ?_
                  refine m_sub [(0, (2, ((2495 : Nat) : Int))), (1, (0, k)), (2, (0, what)), (3, (0, x)), (4, (0, f)), (5, (0, u)), (6, (0, ((4 * k) + u)))] (List.forall_mem_cons.mpr ⟨rfl, List.forall_mem_cons.mpr ⟨rfl, List.forall_mem_cons.mpr ⟨rfl, List.forall_mem_cons.mpr ⟨rfl, List.forall_mem_cons.mpr ⟨rfl, List.forall_mem_cons.mpr ⟨rfl, List.forall_mem_cons.mpr ⟨rfl, fun _ h => absurd h List.not_mem_nil⟩⟩⟩⟩⟩⟩⟩) ?_
                  refine cut82 trivial hh26 ghh26 ?_ ?_ ?_ ?_
                  · exact hC
                  · exact lk
                  · exact VS
                  · exact ⟨_, VU, bU.up (by omega)⟩
          refine m_sub [(0, (2, ((2495 : Nat) : Int))), (1, (0, k)), (2, (0, what)), (3, (0, x)), (4, (0, f)), (5, (0, 0))] (List.forall_mem_cons.mpr ⟨rfl, List.forall_mem_cons.mpr ⟨rfl, List.forall_mem_cons.mpr ⟨rfl, List.forall_mem_cons.mpr ⟨rfl, List.forall_mem_cons.mpr ⟨rfl, List.forall_mem_cons.mpr ⟨rfl, fun _ h => absurd h List.not_mem_nil⟩⟩⟩⟩⟩⟩) ?_
          refine lp24 (((4 : Int) - (0)) + 1).toNat (0) hc6 ghc6 ?_ ?_ ?_ ?_ ?_
          · exact hC
          · exact lk
          · omega
          · exact ⟨0, VS, sz_zero⟩
          · omega
  refine m_sub [(0, (2, ((2495 : Nat) : Int))), (1, (0, k)), (2, (0, what)), (3, (0, x)), (4, (0, 0))] (List.forall_mem_cons.mpr ⟨rfl, List.forall_mem_cons.mpr ⟨rfl, List.forall_mem_cons.mpr ⟨rfl, List.forall_mem_cons.mpr ⟨rfl, List.forall_mem_cons.mpr ⟨rfl, fun _ h => absurd h List.not_mem_nil⟩⟩⟩⟩⟩) ?_
  refine lp2 ((4 * M - (0)) + 1).toNat (0) h g ?_ ?_ ?_ ?_
  · exact Ch.refl _ _ _ _ _
  · exact lk0
  · omega
  · omega
set_option maxRecDepth 20000 in
set_option maxHeartbeats 8000000 in
theorem h_X14_isLoose {h : MH} {n M : Int} {T : Int → Int → Rat} (js : J4s h M) (lk0 : Lk4 h M T) (hn : 0 ≤ n ∧ n ≤ M) (g : Str t14 r14 h) : MCal KX14_isLoose yX14_isLoose 0 0 [(2, ((2495 : Nat) : Int)), (0, n)] h (mRI fun v h' => (v = 0 ∨ v = 1) ∧ Ch 70 2496 2497 [677, 678, 681, 682, 672, 673, 674, 675, 676] h h') := by
  refine MCal.ofMW (Or.inl rfl) ⟨cp_X14, rfl⟩ (Nat.le_of_ble_eq_true rfl) ?_
  generalize eQ : (mRI fun v h' => (v = 0 ∨ v = 1) ∧ Ch 70 2496 2497 [677, 678, 681, 682, 672, 673, 674, 675, 676] h h' : MO → MH → Prop) = Q
  change MW KX14_isLoose Q 0 0 (pcA pgX14_isLoose 0) [(0, (2, ((2495 : Nat) : Int))), (1, (0, n))] [] h
  refine hd_locI (i := 1) rfl (fun rn => ?_)
  have hM := js.1
  have hC : Ch 70 2496 2497 [677, 678, 681, 682, 672, 673, 674, 675, 676] h h := Ch.refl _ _ _ _ _
  have cut15 : ∀ (wa : Int) (hj15 : MH), Str t14 r14 hj15 → (Ch 70 2496 2497 [677, 678, 681, 682, 672, 673, 674, 675, 676] h hj15) → (wa = 0 ∨ wa = 1) → MW KX14_isLoose Q 0 0 (pcA pgX14_isLoose 15) [(0, (2, ((2495 : Nat) : Int))), (1, (0, n))] [(0, wa)] hj15 := by
    intro wa hj15 gc15 hC wav
    refine hd_istore pkX14_isLoose rfl rfl ?_
    change MW _ _ _ _ _ [(2, (0, wa)), (0, (2, ((2495 : Nat) : Int))), (1, (0, n))] _ _
    have cut40 : ∀ (wb : Int) (hj40 : MH), Str t14 r14 hj40 → (Ch 70 2496 2497 [677, 678, 681, 682, 672, 673, 674, 675, 676] h hj40) → (wb = 0 ∨ wb = 1) → MW KX14_isLoose Q 0 0 (pcA pgX14_isLoose 40) [(0, (2, ((2495 : Nat) : Int))), (1, (0, n)), (2, (0, wa))] [(0, wb)] hj40 := by
      intro wb hj40 gc40 hC wbv
      refine hd_istore pkX14_isLoose rfl rfl ?_
      change MW _ _ _ _ _ [(2, (0, wb)), (0, (2, ((2495 : Nat) : Int))), (1, (0, n))] _ _
      have cut63 : ∀ (wc : Int) (hj63 : MH), Str t14 r14 hj63 → (Ch 70 2496 2497 [677, 678, 681, 682, 672, 673, 674, 675, 676] h hj63) → (wc = 0 ∨ wc = 1) → MW KX14_isLoose Q 0 0 (pcA pgX14_isLoose 63) [(0, (2, ((2495 : Nat) : Int))), (1, (0, n)), (2, (0, wb))] [(0, wc)] hj63 := by
        intro wc hj63 gc63 hC wcv
        refine hd_zret pkX14_isLoose rfl (by omega) ?_
        subst eQ
        exact ⟨rfl, rfl, wcv, hC⟩
      refine hd_iload pkX14_isLoose rfl rfl ?_
      refine hd_if_ne pkX14_isLoose rfl (fun c1 => ?_) (fun c1 => ?_)
      · skip
        refine hd_ipush (z := 1) pkX14_isLoose rfl ?_
        refine hd_goto pkX14_isLoose rfl ?_
        refine m_sub [(0, (2, ((2495 : Nat) : Int))), (1, (0, n)), (2, (0, wb))] (List.forall_mem_cons.mpr ⟨rfl, List.forall_mem_cons.mpr ⟨rfl, List.forall_mem_cons.mpr ⟨rfl, fun _ h => absurd h List.not_mem_nil⟩⟩⟩) ?_
        refine cut63 (1) hj40 gc40 ?_ ?_
        · exact hC
        · omega
      · skip
        refine hd_iload pkX14_isLoose rfl rfl ?_
        refine hd_aload pkX14_isLoose rfl rfl (Int.natCast_nonneg _) ?_
        refine hd_getI pkX14_isLoose rfl (gc40.cell 0 rfl).1 (gc40.cell 0 rfl).2.1 (fun v2 ev2 rv2 => ?_)
        have qv2 : M = v2 := by rw [ev2]; exact ((hC.1.ga (by decide) _).trans js.2.1).symm
        subst qv2
        refine hd_ic_ge pkX14_isLoose rfl (fun c3 => ?_) (fun c3 => ?_)
        · skip
          refine hd_ipush (z := 0) pkX14_isLoose rfl ?_
          refine m_sub [(0, (2, ((2495 : Nat) : Int))), (1, (0, n)), (2, (0, wb))] (List.forall_mem_cons.mpr ⟨rfl, List.forall_mem_cons.mpr ⟨rfl, List.forall_mem_cons.mpr ⟨rfl, fun _ h => absurd h List.not_mem_nil⟩⟩⟩) ?_
          refine cut63 (0) hj40 gc40 ?_ ?_
          · exact hC
          · omega
        · skip
          refine hd_aload pkX14_isLoose rfl rfl (Int.natCast_nonneg _) ?_
          refine hd_getR (n := 2502) pkX14_isLoose rfl (gc40.cell 0 rfl).1 (gc40.cell 0 rfl).2.1 (gc40.ref 6 rfl) ?_
          refine hd_ipush (z := 2) pkX14_isLoose rfl ?_
          refine hd_iload pkX14_isLoose rfl rfl ?_
          refine hd_imul pkX14_isLoose rfl (by omega) ?_
          refine hd_zald (n := 6) pkX14_isLoose rfl (gc40.cell 7 rfl) (by omega) (by omega) (fun v4 ev4 rv4 => ?_)
          refine hd_if_ne pkX14_isLoose rfl (fun c5 => ?_) (fun c5 => ?_)
          · skip
            refine hd_ipush (z := 0) pkX14_isLoose rfl ?_
            refine m_sub [(0, (2, ((2495 : Nat) : Int))), (1, (0, n)), (2, (0, wb))] (List.forall_mem_cons.mpr ⟨rfl, List.forall_mem_cons.mpr ⟨rfl, List.forall_mem_cons.mpr ⟨rfl, fun _ h => absurd h List.not_mem_nil⟩⟩⟩) ?_
            refine cut63 (0) hj40 gc40 ?_ ?_
            · exact hC
            · omega
          · skip
            refine hd_aload pkX14_isLoose rfl rfl (Int.natCast_nonneg _) ?_
            refine hd_iload pkX14_isLoose rfl rfl ?_
            refine hd_ipush (z := 1) pkX14_isLoose rfl ?_
            refine hd_ipush (z := 0) pkX14_isLoose rfl ?_
            refine hd_callV pkX14_isLoose rfl (q := (KX14_moves, yX14_moves, 14, 3, 0)) rfl rfl rfl (As := [(0, n), (0, 1), (0, 0)]) (rest := []) (c := 2495) rfl rfl (Nat.le_of_ble_eq_true rfl) (gc40.cell 0 rfl).1 (gc40.cell 0 rfl).2.1 (h_X14_moves (js.only hC.1 (by decide)) (lk0.ch hC (by decide)) ⟨by omega, by omega⟩ ⟨by omega, by omega⟩ ⟨by omega, by omega⟩ gc40) (hd_bI (fun w6 hc7 pm => ?_))
            have ghc7 : Str t14 r14 hc7 := gc40.only pm.2.1 (by decide)
            have hC := hC.trans pm.2
            refine hd_if_eq pkX14_isLoose rfl (fun c8 => ?_) (fun c8 => ?_)
            · skip
              refine hd_ipush (z := 0) pkX14_isLoose rfl ?_
              refine m_sub [(0, (2, ((2495 : Nat) : Int))), (1, (0, n)), (2, (0, wb))] (List.forall_mem_cons.mpr ⟨rfl, List.forall_mem_cons.mpr ⟨rfl, List.forall_mem_cons.mpr ⟨rfl, fun _ h => absurd h List.not_mem_nil⟩⟩⟩) ?_
              refine cut63 (0) hc7 ghc7 ?_ ?_
              · exact hC
              · omega
            · skip
              refine hd_ipush (z := 1) pkX14_isLoose rfl ?_
              refine hd_goto pkX14_isLoose rfl ?_
              refine m_sub [(0, (2, ((2495 : Nat) : Int))), (1, (0, n)), (2, (0, wb))] (List.forall_mem_cons.mpr ⟨rfl, List.forall_mem_cons.mpr ⟨rfl, List.forall_mem_cons.mpr ⟨rfl, fun _ h => absurd h List.not_mem_nil⟩⟩⟩) ?_
              refine cut63 (1) hc7 ghc7 ?_ ?_
              · exact hC
              · omega
    refine hd_iload pkX14_isLoose rfl rfl ?_
    refine hd_if_ne pkX14_isLoose rfl (fun c9 => ?_) (fun c9 => ?_)
    · skip
      refine hd_ipush (z := 1) pkX14_isLoose rfl ?_
      refine hd_goto pkX14_isLoose rfl ?_
      refine m_sub [(0, (2, ((2495 : Nat) : Int))), (1, (0, n)), (2, (0, wa))] (List.forall_mem_cons.mpr ⟨rfl, List.forall_mem_cons.mpr ⟨rfl, List.forall_mem_cons.mpr ⟨rfl, fun _ h => absurd h List.not_mem_nil⟩⟩⟩) ?_
      refine cut40 (1) hj15 gc15 ?_ ?_
      · exact hC
      · omega
    · skip
      refine hd_iload pkX14_isLoose rfl rfl ?_
      refine hd_if_le pkX14_isLoose rfl (fun c10 => ?_) (fun c10 => ?_)
      · skip
        refine hd_ipush (z := 0) pkX14_isLoose rfl ?_
        refine m_sub [(0, (2, ((2495 : Nat) : Int))), (1, (0, n)), (2, (0, wa))] (List.forall_mem_cons.mpr ⟨rfl, List.forall_mem_cons.mpr ⟨rfl, List.forall_mem_cons.mpr ⟨rfl, fun _ h => absurd h List.not_mem_nil⟩⟩⟩) ?_
        refine cut40 (0) hj15 gc15 ?_ ?_
        · exact hC
        · omega
      · skip
        refine hd_aload pkX14_isLoose rfl rfl (Int.natCast_nonneg _) ?_
        refine hd_getR (n := 2502) pkX14_isLoose rfl (gc15.cell 0 rfl).1 (gc15.cell 0 rfl).2.1 (gc15.ref 6 rfl) ?_
        refine hd_ipush (z := 2) pkX14_isLoose rfl ?_
        refine hd_iload pkX14_isLoose rfl rfl ?_
        refine hd_imul pkX14_isLoose rfl (by omega) ?_
        refine hd_ipush (z := 1) pkX14_isLoose rfl ?_
        refine hd_isub pkX14_isLoose rfl (by omega) ?_
        refine hd_zald (n := 6) pkX14_isLoose rfl (gc15.cell 7 rfl) (by omega) (by omega) (fun v11 ev11 rv11 => ?_)
        refine hd_if_ne pkX14_isLoose rfl (fun c12 => ?_) (fun c12 => ?_)
        · skip
          refine hd_ipush (z := 0) pkX14_isLoose rfl ?_
          refine m_sub [(0, (2, ((2495 : Nat) : Int))), (1, (0, n)), (2, (0, wa))] (List.forall_mem_cons.mpr ⟨rfl, List.forall_mem_cons.mpr ⟨rfl, List.forall_mem_cons.mpr ⟨rfl, fun _ h => absurd h List.not_mem_nil⟩⟩⟩) ?_
          refine cut40 (0) hj15 gc15 ?_ ?_
          · exact hC
          · omega
        · skip
          refine hd_aload pkX14_isLoose rfl rfl (Int.natCast_nonneg _) ?_
          refine hd_iload pkX14_isLoose rfl rfl ?_
          refine hd_ipush (z := 1) pkX14_isLoose rfl ?_
          refine hd_isub pkX14_isLoose rfl (by omega) ?_
          refine hd_ipush (z := 1) pkX14_isLoose rfl ?_
          refine hd_ipush (z := 4) pkX14_isLoose rfl ?_
          refine hd_callV pkX14_isLoose rfl (q := (KX14_moves, yX14_moves, 14, 3, 0)) rfl rfl rfl (As := [(0, (n - 1)), (0, 1), (0, 4)]) (rest := []) (c := 2495) rfl rfl (Nat.le_of_ble_eq_true rfl) (gc15.cell 0 rfl).1 (gc15.cell 0 rfl).2.1 (h_X14_moves (js.only hC.1 (by decide)) (lk0.ch hC (by decide)) ⟨by omega, by omega⟩ ⟨by omega, by omega⟩ ⟨by omega, by omega⟩ gc15) (hd_bI (fun w13 hc14 pm => ?_))
          have ghc14 : Str t14 r14 hc14 := gc15.only pm.2.1 (by decide)
          have hC := hC.trans pm.2
          refine hd_if_eq pkX14_isLoose rfl (fun c15 => ?_) (fun c15 => ?_)
          · skip
            refine hd_ipush (z := 0) pkX14_isLoose rfl ?_
            refine m_sub [(0, (2, ((2495 : Nat) : Int))), (1, (0, n)), (2, (0, wa))] (List.forall_mem_cons.mpr ⟨rfl, List.forall_mem_cons.mpr ⟨rfl, List.forall_mem_cons.mpr ⟨rfl, fun _ h => absurd h List.not_mem_nil⟩⟩⟩) ?_
            refine cut40 (0) hc14 ghc14 ?_ ?_
            · exact hC
            · omega
          · skip
            refine hd_ipush (z := 1) pkX14_isLoose rfl ?_
            refine hd_goto pkX14_isLoose rfl ?_
            refine m_sub [(0, (2, ((2495 : Nat) : Int))), (1, (0, n)), (2, (0, wa))] (List.forall_mem_cons.mpr ⟨rfl, List.forall_mem_cons.mpr ⟨rfl, List.forall_mem_cons.mpr ⟨rfl, fun _ h => absurd h List.not_mem_nil⟩⟩⟩) ?_
            refine cut40 (1) hc14 ghc14 ?_ ?_
            · exact hC
            · omega
  refine hd_iload pkX14_isLoose rfl rfl ?_
  refine hd_if_le pkX14_isLoose rfl (fun c16 => ?_) (fun c16 => ?_)
  · skip
    refine hd_aload pkX14_isLoose rfl rfl (Int.natCast_nonneg _) ?_
    refine hd_ipush (z := 0) pkX14_isLoose rfl ?_
    refine hd_ipush (z := 0) pkX14_isLoose rfl ?_
    refine hd_ipush (z := 0) pkX14_isLoose rfl ?_
    refine hd_callV pkX14_isLoose rfl (q := (KX14_moves, yX14_moves, 14, 3, 0)) rfl rfl rfl (As := [(0, 0), (0, 0), (0, 0)]) (rest := []) (c := 2495) rfl rfl (Nat.le_of_ble_eq_true rfl) (g.cell 0 rfl).1 (g.cell 0 rfl).2.1 (h_X14_moves (js.only hC.1 (by decide)) (lk0.ch hC (by decide)) ⟨by omega, by omega⟩ ⟨by omega, by omega⟩ ⟨by omega, by omega⟩ g) (hd_bI (fun w17 hc18 pm => ?_))
    have ghc18 : Str t14 r14 hc18 := g.only pm.2.1 (by decide)
    have hC := hC.trans pm.2
    refine cut15 (w17) hc18 ghc18 ?_ ?_
    · exact hC
    · omega
  · skip
    refine hd_aload pkX14_isLoose rfl rfl (Int.natCast_nonneg _) ?_
    refine hd_iload pkX14_isLoose rfl rfl ?_
    refine hd_ipush (z := 1) pkX14_isLoose rfl ?_
    refine hd_isub pkX14_isLoose rfl (by omega) ?_
    refine hd_ipush (z := 0) pkX14_isLoose rfl ?_
    refine hd_ipush (z := 4) pkX14_isLoose rfl ?_
    refine hd_callV pkX14_isLoose rfl (q := (KX14_moves, yX14_moves, 14, 3, 0)) rfl rfl rfl (As := [(0, (n - 1)), (0, 0), (0, 4)]) (rest := []) (c := 2495) rfl rfl (Nat.le_of_ble_eq_true rfl) (g.cell 0 rfl).1 (g.cell 0 rfl).2.1 (h_X14_moves (js.only hC.1 (by decide)) (lk0.ch hC (by decide)) ⟨by omega, by omega⟩ ⟨by omega, by omega⟩ ⟨by omega, by omega⟩ g) (hd_bI (fun w19 hc20 pm => ?_))
    have ghc20 : Str t14 r14 hc20 := g.only pm.2.1 (by decide)
    have hC := hC.trans pm.2
    refine hd_goto pkX14_isLoose rfl ?_
    refine cut15 (w19) hc20 ghc20 ?_ ?_
    · exact hC
    · omega
