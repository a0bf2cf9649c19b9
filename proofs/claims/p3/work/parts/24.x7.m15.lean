set_option maxRecDepth 20000 in
set_option maxHeartbeats 8000000 in
theorem h_X15_readExpression {h : MH} (jj : J15 h) (ha : 0 ≤ ga h 2595 12 ∧ ga h 2595 12 ≤ ga h 2595 4) (ew : EW h) (g : Str t15 r15 h) : MCal KX15_readExpression yX15_readExpression 0 0 [(2, ((2595 : Nat) : Int))] h (mRI fun v h' => ((0 ≤ v ∧ v ≤ 1) ∧ ((ga h 2595 12 ≤ ga h' 2595 12 ∧ ga h' 2595 12 ≤ ga h 2595 4) ∧ (v = 0 ∨ ∃ th, EX (ga h 2596) (ga h 2598) (ga h 2599) (ga h 2595 12) (ga h' 2595 12) 0 0 th))) ∧ Wd 2595 [] [12] h h' ∧ J15 h' ∧ Str t15 r15 h') := by
  refine MCal.ofMW (Or.inl rfl) ⟨cp_X15, rfl⟩ (Nat.le_of_ble_eq_true rfl) ?_
  generalize eQ : (mRI fun v h' => ((0 ≤ v ∧ v ≤ 1) ∧ ((ga h 2595 12 ≤ ga h' 2595 12 ∧ ga h' 2595 12 ≤ ga h 2595 4) ∧ (v = 0 ∨ ∃ th, EX (ga h 2596) (ga h 2598) (ga h 2599) (ga h 2595 12) (ga h' 2595 12) 0 0 th))) ∧ Wd 2595 [] [12] h h' ∧ J15 h' ∧ Str t15 r15 h' : MO → MH → Prop) = Q
  change MW KX15_readExpression Q 0 0 (pcA pgX15_readExpression 0) [(0, (2, ((2595 : Nat) : Int)))] [] h
  have ww : Wd 2595 [] [12] h h := Wd.refl _ _ _ _
  have kf4 : ga h 2595 4 = ga h 2595 4 := rfl
  have kf12 : ga h 2595 12 = ga h 2595 12 := rfl
  have fz4 := jj.f_words
  refine hd_ipush (z := 0) pkX15_readExpression rfl ?_
  refine hd_istore pkX15_readExpression rfl rfl ?_
  change MW _ _ _ _ _ [(1, (0, 0)), (0, (2, ((2595 : Nat) : Int)))] _ _
  refine hd_ipush (z := 0) pkX15_readExpression rfl ?_
  refine hd_istore pkX15_readExpression rfl rfl ?_
  change MW _ _ _ _ _ [(2, (0, 0)), (1, (0, 0)), (0, (2, ((2595 : Nat) : Int)))] _ _
  refine hd_ipush (z := 1) pkX15_readExpression rfl ?_
  refine hd_istore pkX15_readExpression rfl rfl ?_
  change MW _ _ _ _ _ [(3, (0, 1)), (2, (0, 0)), (1, (0, 0)), (0, (2, ((2595 : Nat) : Int)))] _ _
  refine hd_ipush (z := 1) pkX15_readExpression rfl ?_
  refine hd_istore pkX15_readExpression rfl rfl ?_
  change MW _ _ _ _ _ [(4, (0, 1)), (3, (0, 1)), (2, (0, 0)), (1, (0, 0)), (0, (2, ((2595 : Nat) : Int)))] _ _
  have lp8 : ∀ (N8 : Nat) (th op wt mo a9 : Int) (hl8 : MH), Str t15 r15 hl8 → (Wd 2595 [] [12] h hl8) → (J15 hl8) → (ga hl8 2595 12 = a9) → (0 ≤ a9 ∧ a9 ≤ ga hl8 2595 4) → (ga h 2595 12 ≤ a9) → (EW hl8) → (ga hl8 2595 4 = ga h 2595 4) → ((0 ≤ th ∧ th ≤ 30) ∧ (0 ≤ op ∧ op ≤ 10) ∧ (wt = 0 ∨ wt = 1) ∧ (mo = 0 ∨ mo = 1)) → (mo = 1 ∨ (op ≤ 0 ∧ wt = 0)) → (EX (ga hl8 2596) (ga hl8 2598) (ga hl8 2599) (ga h 2595 12) a9 op wt th) → ((ga hl8 2595 4 - a9 + mo) : Int) < (N8 : Int) → MW KX15_readExpression Q 0 0 (pcA pgX15_readExpression 8) [(0, (2, ((2595 : Nat) : Int))), (1, (0, th)), (2, (0, op)), (3, (0, wt)), (4, (0, mo))] [] hl8 := by
    intro N8
    induction N8 with
    | zero => intro th op wt mo a9 hl8 g8 ww jj hat a9b f0 ew n44 tb md ex hm8; exfalso; omega
    | succ N8 ih8 =>
      intro th op wt mo a9 hl8 g8 ww jj hat a9b f0 ew n44 tb md ex hm8
      refine hd_iload pkX15_readExpression rfl rfl ?_
      have wb := jj.wb ew (a := a9) a9b.1 a9b.2
      have wd4 := jj.f_words
      refine hd_if_eq pkX15_readExpression rfl (fun c1 => ?_) (fun c1 => ?_)
      · skip
        refine hd_ipush (z := 1) pkX15_readExpression rfl ?_
        refine hd_zret pkX15_readExpression rfl (by omega) ?_
        subst eQ
        refine ⟨rfl, rfl, ⟨(by show 0 ≤ (1 : Int) ∧ (1 : Int) ≤ 1; omega), ?_⟩, ww, jj, g8⟩
        show (ga h 2595 12 ≤ ga hl8 2595 12 ∧ ga hl8 2595 12 ≤ ga h 2595 4) ∧ ((1 : Int) = 0 ∨ ∃ th, EX (ga h 2596) (ga h 2598) (ga h 2599) (ga h 2595 12) (ga hl8 2595 12) 0 0 th)
        have nT := ww.arF (c := 2596) (by decide)
        have nB := ww.arF (c := 2598) (by decide)
        have nE := ww.arF (c := 2599) (by decide)
        refine ⟨by omega, Or.inr ⟨th, ?_⟩⟩
        rw [← nT, ← nB, ← nE, hat]
        rw [show op = 0 by omega, show wt = 0 by omega] at ex
        exact ex
      · skip
        refine hd_iload pkX15_readExpression rfl rfl ?_
        refine hd_if_eq pkX15_readExpression rfl (fun c2 => ?_) (fun c2 => ?_)
        · skip
          refine hd_iload pkX15_readExpression rfl rfl ?_
          refine hd_if_eq pkX15_readExpression rfl (fun c3 => ?_) (fun c3 => ?_)
          · skip
            refine hd_aload pkX15_readExpression rfl rfl (Int.natCast_nonneg _) ?_
            refine hd_aload pkX15_readExpression rfl rfl (Int.natCast_nonneg _) ?_
            refine hd_getR (n := 2596) pkX15_readExpression rfl (g8.cell 0 rfl).1 (g8.cell 0 rfl).2.1 (g8.ref 0 rfl) ?_
            refine hd_aload pkX15_readExpression rfl rfl (Int.natCast_nonneg _) ?_
            refine hd_getI pkX15_readExpression rfl (g8.cell 0 rfl).1 (g8.cell 0 rfl).2.1 (fun v4 ev4 rv4 => ?_)
            replace ev4 : v4 = ga hl8 2595 12 := ev4
            have qv4 : a9 = v4 := hat.symm.trans ev4.symm
            refine hd_callV pkX15_readExpression rfl (q := (KX15_isSign, yX15_isSign, 15, 2, 0)) rfl rfl rfl (As := [(2, ((2596 : Nat) : Int)), (0, v4)]) (rest := []) (c := 2595) rfl rfl (Nat.le_of_ble_eq_true rfl) (g8.cell 0 rfl).1 (g8.cell 0 rfl).2.1 (h_X15_isSign_2596 jj (by omega) g8) (hd_bI (fun w6 hc7 p5 => ?_))
            obtain ⟨p5, ehc7⟩ := p5
            replace ehc7 := ehc7.symm
            subst ehc7
            refine hd_if_eq pkX15_readExpression rfl (fun c8 => ?_) (fun c8 => ?_)
            · skip
              refine hd_iload pkX15_readExpression rfl rfl ?_
              refine hd_if_le pkX15_readExpression rfl (fun c9 => ?_) (fun c9 => ?_)
              · skip
                refine hd_ipush (z := 0) pkX15_readExpression rfl ?_
                refine hd_istore pkX15_readExpression rfl rfl ?_
                change MW _ _ _ _ _ [(4, (0, 0)), (0, (2, ((2595 : Nat) : Int))), (1, (0, th)), (2, (0, op)), (3, (0, wt))] _ _
                refine hd_aload pkX15_readExpression rfl rfl (Int.natCast_nonneg _) ?_
                refine hd_dup pkX15_readExpression rfl rfl ?_
                refine hd_getI pkX15_readExpression rfl (g8.cell 0 rfl).1 (g8.cell 0 rfl).2.1 (fun v10 ev10 rv10 => ?_)
                replace ev10 : v10 = ga hl8 2595 12 := ev10
                have qv10 : a9 = v10 := hat.symm.trans ev10.symm
                refine hd_iload pkX15_readExpression rfl rfl ?_
                refine hd_if_eq pkX15_readExpression rfl (fun c11 => ?_) (fun c11 => ?_)
                · skip
                  refine hd_ipush (z := 0) pkX15_readExpression rfl ?_
                  refine hd_iadd pkX15_readExpression rfl (by omega) ?_
                  refine hd_putI pkX15_readExpression rfl (g8.cell 0 rfl).1 (g8.cell 0 rfl).2.1 (fun hh12 ehh12 => ?_)
                  have ghh12 : Str t15 r15 hh12 := by rw [ehh12]; exact g8.setF rfl
                  have jj := jj.wf_12 ehh12
                  have ww := ww.wF ehh12 (by decide) (by decide)
                  have kf4 : ga hh12 2595 4 = ga hl8 2595 4 := (ga_wr ehh12 (by decide) (by decide)).trans (if_neg (by decide))
                  have kf12 : ga hh12 2595 12 = (v10 + 0) := (ga_wr ehh12 (by decide) (by decide)).trans (if_pos rfl)
                  have ww1 : Wd 2595 [] [12] hl8 hh12 := (Wd.refl _ _ _ _).wF ehh12 (by decide) (by decide)
                  have n4 : ga hh12 2595 4 = ga hl8 2595 4 := kf4
                  have nT := ga_upn ehh12 (d := 2596) (by decide)
                  have nB := ga_upn ehh12 (d := 2598) (by decide)
                  have nE := ga_upn ehh12 (d := 2599) (by decide)
                  refine hd_goto pkX15_readExpression rfl ?_
                  refine m_sub [(0, (2, ((2595 : Nat) : Int))), (1, (0, th)), (2, (0, op)), (3, (0, wt)), (4, (0, 0))] (List.forall_mem_cons.mpr ⟨rfl, List.forall_mem_cons.mpr ⟨rfl, List.forall_mem_cons.mpr ⟨rfl, List.forall_mem_cons.mpr ⟨rfl, List.forall_mem_cons.mpr ⟨rfl, fun _ h => absurd h List.not_mem_nil⟩⟩⟩⟩⟩) ?_
                  refine ih8  (th) (op) (wt) (0) ((ga hh12 2595 12)) hh12 ghh12 ?_ ?_ ?_ ?_ ?_ ?_ ?_ ?_ ?_ ?_ ?_
                  · exact ww
                  · exact jj
                  · rfl
                  · omega
                  · omega
                  · exact ew.wd ww1 (by decide) (by decide) (by decide)
                  · omega
                  · omega
                  · omega
                  · rw [nT, nB, nE, show ga hh12 2595 12 = a9 by omega]
                    exact ex
                  · omega
                · skip
                  refine hd_ipush (z := 1) pkX15_readExpression rfl ?_
                  refine hd_goto pkX15_readExpression rfl ?_
                  refine hd_iadd pkX15_readExpression rfl (by omega) ?_
                  refine hd_putI pkX15_readExpression rfl (g8.cell 0 rfl).1 (g8.cell 0 rfl).2.1 (fun hh13 ehh13 => ?_)
                  have ghh13 : Str t15 r15 hh13 := by rw [ehh13]; exact g8.setF rfl
                  have jj := jj.wf_12 ehh13
                  have ww := ww.wF ehh13 (by decide) (by decide)
                  have kf4 : ga hh13 2595 4 = ga hl8 2595 4 := (ga_wr ehh13 (by decide) (by decide)).trans (if_neg (by decide))
                  have kf12 : ga hh13 2595 12 = (v10 + 1) := (ga_wr ehh13 (by decide) (by decide)).trans (if_pos rfl)
                  have ww1 : Wd 2595 [] [12] hl8 hh13 := (Wd.refl _ _ _ _).wF ehh13 (by decide) (by decide)
                  have n4 : ga hh13 2595 4 = ga hl8 2595 4 := kf4
                  have nT := ga_upn ehh13 (d := 2596) (by decide)
                  have nB := ga_upn ehh13 (d := 2598) (by decide)
                  have nE := ga_upn ehh13 (d := 2599) (by decide)
                  refine hd_goto pkX15_readExpression rfl ?_
                  refine m_sub [(0, (2, ((2595 : Nat) : Int))), (1, (0, th)), (2, (0, op)), (3, (0, wt)), (4, (0, 0))] (List.forall_mem_cons.mpr ⟨rfl, List.forall_mem_cons.mpr ⟨rfl, List.forall_mem_cons.mpr ⟨rfl, List.forall_mem_cons.mpr ⟨rfl, List.forall_mem_cons.mpr ⟨rfl, fun _ h => absurd h List.not_mem_nil⟩⟩⟩⟩⟩) ?_
                  refine ih8  (th) (op) (wt) (0) ((ga hh13 2595 12)) hh13 ghh13 ?_ ?_ ?_ ?_ ?_ ?_ ?_ ?_ ?_ ?_ ?_
                  · exact ww
                  · exact jj
                  · rfl
                  · omega
                  · omega
                  · exact ew.wd ww1 (by decide) (by decide) (by decide)
                  · omega
                  · omega
                  · omega
                  · rw [nT, nB, nE, show ga hh13 2595 12 = a9 by omega]
                    exact ex
                  · omega
              · skip
                refine hd_aload pkX15_readExpression rfl rfl (Int.natCast_nonneg _) ?_
                refine hd_aload pkX15_readExpression rfl rfl (Int.natCast_nonneg _) ?_
                refine hd_getR (n := 2596) pkX15_readExpression rfl (g8.cell 0 rfl).1 (g8.cell 0 rfl).2.1 (g8.ref 0 rfl) ?_
                refine hd_aload pkX15_readExpression rfl rfl (Int.natCast_nonneg _) ?_
                refine hd_getI pkX15_readExpression rfl (g8.cell 0 rfl).1 (g8.cell 0 rfl).2.1 (fun v14 ev14 rv14 => ?_)
                replace ev14 : v14 = ga hl8 2595 12 := ev14
                have qv14 : a9 = v14 := hat.symm.trans ev14.symm
                refine hd_ipush (z := 41) pkX15_readExpression rfl ?_
                refine hd_callV pkX15_readExpression rfl (q := (KX15_is, yX15_is, 15, 3, 0)) rfl rfl rfl (As := [(2, ((2596 : Nat) : Int)), (0, v14), (0, 41)]) (rest := []) (c := 2595) rfl rfl (Nat.le_of_ble_eq_true rfl) (g8.cell 0 rfl).1 (g8.cell 0 rfl).2.1 (h_X15_is_2596 jj (by omega) g8) (hd_bI (fun w16 hc17 p15 => ?_))
                obtain ⟨p15, ehc17⟩ := p15
                replace ehc17 := ehc17.symm
                subst ehc17
                refine hd_if_ne pkX15_readExpression rfl (fun c18 => ?_) (fun c18 => ?_)
                · skip
                  refine hd_iinc (z := (-1)) pkX15_readExpression rfl rfl (by omega) rfl ?_
                  change MW _ _ _ _ _ [(2, (0, (op + (-1)))), (0, (2, ((2595 : Nat) : Int))), (1, (0, th)), (3, (0, wt)), (4, (0, mo))] _ _
                  refine hd_goto pkX15_readExpression rfl ?_
                  refine hd_aload pkX15_readExpression rfl rfl (Int.natCast_nonneg _) ?_
                  refine hd_dup pkX15_readExpression rfl rfl ?_
                  refine hd_getI pkX15_readExpression rfl (g8.cell 0 rfl).1 (g8.cell 0 rfl).2.1 (fun v19 ev19 rv19 => ?_)
                  replace ev19 : v19 = ga hl8 2595 12 := ev19
                  have qv19 : a9 = v19 := hat.symm.trans ev19.symm
                  refine hd_iload pkX15_readExpression rfl rfl ?_
                  refine hd_if_eq pkX15_readExpression rfl (fun c20 => ?_) (fun c20 => ?_)
                  · skip
                    refine hd_ipush (z := 0) pkX15_readExpression rfl ?_
                    refine hd_iadd pkX15_readExpression rfl (by omega) ?_
                    refine hd_putI pkX15_readExpression rfl (g8.cell 0 rfl).1 (g8.cell 0 rfl).2.1 (fun hh21 ehh21 => ?_)
                    have ghh21 : Str t15 r15 hh21 := by rw [ehh21]; exact g8.setF rfl
                    have jj := jj.wf_12 ehh21
                    have ww := ww.wF ehh21 (by decide) (by decide)
                    have kf4 : ga hh21 2595 4 = ga hl8 2595 4 := (ga_wr ehh21 (by decide) (by decide)).trans (if_neg (by decide))
                    have kf12 : ga hh21 2595 12 = (v19 + 0) := (ga_wr ehh21 (by decide) (by decide)).trans (if_pos rfl)
                    have ww1 : Wd 2595 [] [12] hl8 hh21 := (Wd.refl _ _ _ _).wF ehh21 (by decide) (by decide)
                    have n4 : ga hh21 2595 4 = ga hl8 2595 4 := kf4
                    have nT := ga_upn ehh21 (d := 2596) (by decide)
                    have nB := ga_upn ehh21 (d := 2598) (by decide)
                    have nE := ga_upn ehh21 (d := 2599) (by decide)
                    refine hd_goto pkX15_readExpression rfl ?_
                    refine m_sub [(0, (2, ((2595 : Nat) : Int))), (1, (0, th)), (2, (0, (op + (-1)))), (3, (0, wt)), (4, (0, mo))] (List.forall_mem_cons.mpr ⟨rfl, List.forall_mem_cons.mpr ⟨rfl, List.forall_mem_cons.mpr ⟨rfl, List.forall_mem_cons.mpr ⟨rfl, List.forall_mem_cons.mpr ⟨rfl, fun _ h => absurd h List.not_mem_nil⟩⟩⟩⟩⟩) ?_
                    refine ih8  (th) ((op + (-1))) (wt) (mo) ((ga hh21 2595 12)) hh21 ghh21 ?_ ?_ ?_ ?_ ?_ ?_ ?_ ?_ ?_ ?_ ?_
                    · exact ww
                    · exact jj
                    · rfl
                    · omega
                    · omega
                    · exact ew.wd ww1 (by decide) (by decide) (by decide)
                    · omega
                    · omega
                    · omega
                    · rw [nT, nB, nE, show ga hh21 2595 12 = a9 + 1 by omega]
                      exact ex.step (by omega) (by unfold SX; omega)
                    · omega
                  · skip
                    refine hd_ipush (z := 1) pkX15_readExpression rfl ?_
                    refine hd_goto pkX15_readExpression rfl ?_
                    refine hd_iadd pkX15_readExpression rfl (by omega) ?_
                    refine hd_putI pkX15_readExpression rfl (g8.cell 0 rfl).1 (g8.cell 0 rfl).2.1 (fun hh22 ehh22 => ?_)
                    have ghh22 : Str t15 r15 hh22 := by rw [ehh22]; exact g8.setF rfl
                    have jj := jj.wf_12 ehh22
                    have ww := ww.wF ehh22 (by decide) (by decide)
                    have kf4 : ga hh22 2595 4 = ga hl8 2595 4 := (ga_wr ehh22 (by decide) (by decide)).trans (if_neg (by decide))
                    have kf12 : ga hh22 2595 12 = (v19 + 1) := (ga_wr ehh22 (by decide) (by decide)).trans (if_pos rfl)
                    have ww1 : Wd 2595 [] [12] hl8 hh22 := (Wd.refl _ _ _ _).wF ehh22 (by decide) (by decide)
                    have n4 : ga hh22 2595 4 = ga hl8 2595 4 := kf4
                    have nT := ga_upn ehh22 (d := 2596) (by decide)
                    have nB := ga_upn ehh22 (d := 2598) (by decide)
                    have nE := ga_upn ehh22 (d := 2599) (by decide)
                    refine hd_goto pkX15_readExpression rfl ?_
                    refine m_sub [(0, (2, ((2595 : Nat) : Int))), (1, (0, th)), (2, (0, (op + (-1)))), (3, (0, wt)), (4, (0, mo))] (List.forall_mem_cons.mpr ⟨rfl, List.forall_mem_cons.mpr ⟨rfl, List.forall_mem_cons.mpr ⟨rfl, List.forall_mem_cons.mpr ⟨rfl, List.forall_mem_cons.mpr ⟨rfl, fun _ h => absurd h List.not_mem_nil⟩⟩⟩⟩⟩) ?_
                    refine ih8  (th) ((op + (-1))) (wt) (mo) ((ga hh22 2595 12)) hh22 ghh22 ?_ ?_ ?_ ?_ ?_ ?_ ?_ ?_ ?_ ?_ ?_
                    · exact ww
                    · exact jj
                    · rfl
                    · omega
                    · omega
                    · exact ew.wd ww1 (by decide) (by decide) (by decide)
                    · omega
                    · omega
                    · omega
                    · rw [nT, nB, nE, show ga hh22 2595 12 = a9 + 1 by omega]
                      exact ex.step (by omega) (by unfold SX; omega)
                    · omega
                · skip
                  refine hd_ipush (z := 0) pkX15_readExpression rfl ?_
                  refine hd_zret pkX15_readExpression rfl (by omega) ?_
                  subst eQ
                  refine ⟨rfl, rfl, ⟨(by show 0 ≤ (0 : Int) ∧ (0 : Int) ≤ 1; omega), ?_⟩, ww, jj, g8⟩
                  show (ga h 2595 12 ≤ ga hl8 2595 12 ∧ ga hl8 2595 12 ≤ ga h 2595 4) ∧ ((0 : Int) = 0 ∨ ∃ th, EX (ga h 2596) (ga h 2598) (ga h 2599) (ga h 2595 12) (ga hl8 2595 12) 0 0 th)
                  refine ⟨by omega, Or.inl rfl⟩
            · skip
              refine hd_iinc (z := 1) pkX15_readExpression rfl rfl (by omega) rfl ?_
              change MW _ _ _ _ _ [(1, (0, (th + 1))), (0, (2, ((2595 : Nat) : Int))), (2, (0, op)), (3, (0, wt)), (4, (0, mo))] _ _
              refine hd_iload pkX15_readExpression rfl rfl ?_
              refine hd_ipush (z := 30) pkX15_readExpression rfl ?_
              refine hd_ic_le pkX15_readExpression rfl (fun c23 => ?_) (fun c23 => ?_)
              · skip
                refine hd_ipush (z := 1) pkX15_readExpression rfl ?_
                refine hd_istore pkX15_readExpression rfl rfl ?_
                change MW _ _ _ _ _ [(3, (0, 1)), (1, (0, (th + 1))), (0, (2, ((2595 : Nat) : Int))), (2, (0, op)), (4, (0, mo))] _ _
                refine hd_goto pkX15_readExpression rfl ?_
                refine hd_aload pkX15_readExpression rfl rfl (Int.natCast_nonneg _) ?_
                refine hd_dup pkX15_readExpression rfl rfl ?_
                refine hd_getI pkX15_readExpression rfl (g8.cell 0 rfl).1 (g8.cell 0 rfl).2.1 (fun v24 ev24 rv24 => ?_)
                replace ev24 : v24 = ga hl8 2595 12 := ev24
                have qv24 : a9 = v24 := hat.symm.trans ev24.symm
                refine hd_iload pkX15_readExpression rfl rfl ?_
                refine hd_if_eq pkX15_readExpression rfl (fun c25 => ?_) (fun c25 => ?_)
                · skip
                  refine hd_ipush (z := 0) pkX15_readExpression rfl ?_
                  refine hd_iadd pkX15_readExpression rfl (by omega) ?_
                  refine hd_putI pkX15_readExpression rfl (g8.cell 0 rfl).1 (g8.cell 0 rfl).2.1 (fun hh26 ehh26 => ?_)
                  have ghh26 : Str t15 r15 hh26 := by rw [ehh26]; exact g8.setF rfl
                  have jj := jj.wf_12 ehh26
                  have ww := ww.wF ehh26 (by decide) (by decide)
                  have kf4 : ga hh26 2595 4 = ga hl8 2595 4 := (ga_wr ehh26 (by decide) (by decide)).trans (if_neg (by decide))
                  have kf12 : ga hh26 2595 12 = (v24 + 0) := (ga_wr ehh26 (by decide) (by decide)).trans (if_pos rfl)
                  have ww1 : Wd 2595 [] [12] hl8 hh26 := (Wd.refl _ _ _ _).wF ehh26 (by decide) (by decide)
                  have n4 : ga hh26 2595 4 = ga hl8 2595 4 := kf4
                  have nT := ga_upn ehh26 (d := 2596) (by decide)
                  have nB := ga_upn ehh26 (d := 2598) (by decide)
                  have nE := ga_upn ehh26 (d := 2599) (by decide)
                  refine hd_goto pkX15_readExpression rfl ?_
                  refine m_sub [(0, (2, ((2595 : Nat) : Int))), (1, (0, (th + 1))), (2, (0, op)), (3, (0, 1)), (4, (0, mo))] (List.forall_mem_cons.mpr ⟨rfl, List.forall_mem_cons.mpr ⟨rfl, List.forall_mem_cons.mpr ⟨rfl, List.forall_mem_cons.mpr ⟨rfl, List.forall_mem_cons.mpr ⟨rfl, fun _ h => absurd h List.not_mem_nil⟩⟩⟩⟩⟩) ?_
                  refine ih8  ((th + 1)) (op) (1) (mo) ((ga hh26 2595 12)) hh26 ghh26 ?_ ?_ ?_ ?_ ?_ ?_ ?_ ?_ ?_ ?_ ?_
                  · exact ww
                  · exact jj
                  · rfl
                  · omega
                  · omega
                  · exact ew.wd ww1 (by decide) (by decide) (by decide)
                  · omega
                  · omega
                  · omega
                  · rw [nT, nB, nE, show ga hh26 2595 12 = a9 + 1 by omega]
                    exact ex.step (by omega) (by unfold SX; omega)
                  · omega
                · skip
                  refine hd_ipush (z := 1) pkX15_readExpression rfl ?_
                  refine hd_goto pkX15_readExpression rfl ?_
                  refine hd_iadd pkX15_readExpression rfl (by omega) ?_
                  refine hd_putI pkX15_readExpression rfl (g8.cell 0 rfl).1 (g8.cell 0 rfl).2.1 (fun hh27 ehh27 => ?_)
                  have ghh27 : Str t15 r15 hh27 := by rw [ehh27]; exact g8.setF rfl
                  have jj := jj.wf_12 ehh27
                  have ww := ww.wF ehh27 (by decide) (by decide)
                  have kf4 : ga hh27 2595 4 = ga hl8 2595 4 := (ga_wr ehh27 (by decide) (by decide)).trans (if_neg (by decide))
                  have kf12 : ga hh27 2595 12 = (v24 + 1) := (ga_wr ehh27 (by decide) (by decide)).trans (if_pos rfl)
                  have ww1 : Wd 2595 [] [12] hl8 hh27 := (Wd.refl _ _ _ _).wF ehh27 (by decide) (by decide)
                  have n4 : ga hh27 2595 4 = ga hl8 2595 4 := kf4
                  have nT := ga_upn ehh27 (d := 2596) (by decide)
                  have nB := ga_upn ehh27 (d := 2598) (by decide)
                  have nE := ga_upn ehh27 (d := 2599) (by decide)
                  refine hd_goto pkX15_readExpression rfl ?_
                  refine m_sub [(0, (2, ((2595 : Nat) : Int))), (1, (0, (th + 1))), (2, (0, op)), (3, (0, 1)), (4, (0, mo))] (List.forall_mem_cons.mpr ⟨rfl, List.forall_mem_cons.mpr ⟨rfl, List.forall_mem_cons.mpr ⟨rfl, List.forall_mem_cons.mpr ⟨rfl, List.forall_mem_cons.mpr ⟨rfl, fun _ h => absurd h List.not_mem_nil⟩⟩⟩⟩⟩) ?_
                  refine ih8  ((th + 1)) (op) (1) (mo) ((ga hh27 2595 12)) hh27 ghh27 ?_ ?_ ?_ ?_ ?_ ?_ ?_ ?_ ?_ ?_ ?_
                  · exact ww
                  · exact jj
                  · rfl
                  · omega
                  · omega
                  · exact ew.wd ww1 (by decide) (by decide) (by decide)
                  · omega
                  · omega
                  · omega
                  · rw [nT, nB, nE, show ga hh27 2595 12 = a9 + 1 by omega]
                    exact ex.step (by omega) (by unfold SX; omega)
                  · omega
              · skip
                refine hd_ipush (z := 0) pkX15_readExpression rfl ?_
                refine hd_zret pkX15_readExpression rfl (by omega) ?_
                subst eQ
                refine ⟨rfl, rfl, ⟨(by show 0 ≤ (0 : Int) ∧ (0 : Int) ≤ 1; omega), ?_⟩, ww, jj, g8⟩
                show (ga h 2595 12 ≤ ga hl8 2595 12 ∧ ga hl8 2595 12 ≤ ga h 2595 4) ∧ ((0 : Int) = 0 ∨ ∃ th, EX (ga h 2596) (ga h 2598) (ga h 2599) (ga h 2595 12) (ga hl8 2595 12) 0 0 th)
                refine ⟨by omega, Or.inl rfl⟩
          · skip
            refine hd_iinc (z := 1) pkX15_readExpression rfl rfl (by omega) rfl ?_
            change MW _ _ _ _ _ [(1, (0, (th + 1))), (0, (2, ((2595 : Nat) : Int))), (2, (0, op)), (3, (0, wt)), (4, (0, mo))] _ _
            refine hd_aload pkX15_readExpression rfl rfl (Int.natCast_nonneg _) ?_
            refine hd_aload pkX15_readExpression rfl rfl (Int.natCast_nonneg _) ?_
            refine hd_getR (n := 2596) pkX15_readExpression rfl (g8.cell 0 rfl).1 (g8.cell 0 rfl).2.1 (g8.ref 0 rfl) ?_
            refine hd_aload pkX15_readExpression rfl rfl (Int.natCast_nonneg _) ?_
            refine hd_getI pkX15_readExpression rfl (g8.cell 0 rfl).1 (g8.cell 0 rfl).2.1 (fun v28 ev28 rv28 => ?_)
            replace ev28 : v28 = ga hl8 2595 12 := ev28
            have qv28 : a9 = v28 := hat.symm.trans ev28.symm
            refine hd_callV pkX15_readExpression rfl (q := (KX15_variable, yX15_variable, 15, 2, 0)) rfl rfl rfl (As := [(2, ((2596 : Nat) : Int)), (0, v28)]) (rest := []) (c := 2595) rfl rfl (Nat.le_of_ble_eq_true rfl) (g8.cell 0 rfl).1 (g8.cell 0 rfl).2.1 (h_X15_variable_2596 jj (by omega) g8) (hd_bI (fun w30 hc31 p29 => ?_))
            obtain ⟨p29, ehc31⟩ := p29
            replace ehc31 := ehc31.symm
            subst ehc31
            refine hd_ipush (z := (-1)) pkX15_readExpression rfl ?_
            refine hd_ic_ne pkX15_readExpression rfl (fun c32 => ?_) (fun c32 => ?_)
            · skip
              refine hd_ipush (z := 1) pkX15_readExpression rfl ?_
              refine hd_goto pkX15_readExpression rfl ?_
              refine hd_istore pkX15_readExpression rfl rfl ?_
              change MW _ _ _ _ _ [(5, (0, 1)), (1, (0, (th + 1))), (0, (2, ((2595 : Nat) : Int))), (2, (0, op)), (3, (0, wt)), (4, (0, mo))] _ _
              refine hd_iload pkX15_readExpression rfl rfl ?_
              refine hd_ipush (z := 30) pkX15_readExpression rfl ?_
              refine hd_ic_gt pkX15_readExpression rfl (fun c33 => ?_) (fun c33 => ?_)
              · skip
                refine hd_ipush (z := 0) pkX15_readExpression rfl ?_
                refine hd_zret pkX15_readExpression rfl (by omega) ?_
                subst eQ
                refine ⟨rfl, rfl, ⟨(by show 0 ≤ (0 : Int) ∧ (0 : Int) ≤ 1; omega), ?_⟩, ww, jj, g8⟩
                show (ga h 2595 12 ≤ ga hl8 2595 12 ∧ ga hl8 2595 12 ≤ ga h 2595 4) ∧ ((0 : Int) = 0 ∨ ∃ th, EX (ga h 2596) (ga h 2598) (ga h 2599) (ga h 2595 12) (ga hl8 2595 12) 0 0 th)
                refine ⟨by omega, Or.inl rfl⟩
              · skip
                refine hd_iload pkX15_readExpression rfl rfl ?_
                refine hd_if_ne pkX15_readExpression rfl (fun c34 => ?_) (fun c34 => ?_)
                · skip
                  refine hd_ipush (z := 0) pkX15_readExpression rfl ?_
                  refine hd_istore pkX15_readExpression rfl rfl ?_
                  change MW _ _ _ _ _ [(3, (0, 0)), (5, (0, 1)), (1, (0, (th + 1))), (0, (2, ((2595 : Nat) : Int))), (2, (0, op)), (4, (0, mo))] _ _
                  refine hd_goto pkX15_readExpression rfl ?_
                  refine hd_aload pkX15_readExpression rfl rfl (Int.natCast_nonneg _) ?_
                  refine hd_dup pkX15_readExpression rfl rfl ?_
                  refine hd_getI pkX15_readExpression rfl (g8.cell 0 rfl).1 (g8.cell 0 rfl).2.1 (fun v35 ev35 rv35 => ?_)
                  replace ev35 : v35 = ga hl8 2595 12 := ev35
                  have qv35 : a9 = v35 := hat.symm.trans ev35.symm
                  refine hd_iload pkX15_readExpression rfl rfl ?_
                  refine hd_if_eq pkX15_readExpression rfl (fun c36 => ?_) (fun c36 => ?_)
                  · skip
                    refine hd_ipush (z := 0) pkX15_readExpression rfl ?_
                    refine hd_iadd pkX15_readExpression rfl (by omega) ?_
                    refine hd_putI pkX15_readExpression rfl (g8.cell 0 rfl).1 (g8.cell 0 rfl).2.1 (fun hh37 ehh37 => ?_)
                    have ghh37 : Str t15 r15 hh37 := by rw [ehh37]; exact g8.setF rfl
                    have jj := jj.wf_12 ehh37
                    have ww := ww.wF ehh37 (by decide) (by decide)
                    have kf4 : ga hh37 2595 4 = ga hl8 2595 4 := (ga_wr ehh37 (by decide) (by decide)).trans (if_neg (by decide))
                    have kf12 : ga hh37 2595 12 = (v35 + 0) := (ga_wr ehh37 (by decide) (by decide)).trans (if_pos rfl)
                    have ww1 : Wd 2595 [] [12] hl8 hh37 := (Wd.refl _ _ _ _).wF ehh37 (by decide) (by decide)
                    have n4 : ga hh37 2595 4 = ga hl8 2595 4 := kf4
                    have nT := ga_upn ehh37 (d := 2596) (by decide)
                    have nB := ga_upn ehh37 (d := 2598) (by decide)
                    have nE := ga_upn ehh37 (d := 2599) (by decide)
                    refine hd_goto pkX15_readExpression rfl ?_
                    refine m_sub [(0, (2, ((2595 : Nat) : Int))), (1, (0, (th + 1))), (2, (0, op)), (3, (0, 0)), (4, (0, mo))] (List.forall_mem_cons.mpr ⟨rfl, List.forall_mem_cons.mpr ⟨rfl, List.forall_mem_cons.mpr ⟨rfl, List.forall_mem_cons.mpr ⟨rfl, List.forall_mem_cons.mpr ⟨rfl, fun _ h => absurd h List.not_mem_nil⟩⟩⟩⟩⟩) ?_
                    refine ih8  ((th + 1)) (op) (0) (mo) ((ga hh37 2595 12)) hh37 ghh37 ?_ ?_ ?_ ?_ ?_ ?_ ?_ ?_ ?_ ?_ ?_
                    · exact ww
                    · exact jj
                    · rfl
                    · omega
                    · omega
                    · exact ew.wd ww1 (by decide) (by decide) (by decide)
                    · omega
                    · omega
                    · omega
                    · rw [nT, nB, nE, show ga hh37 2595 12 = a9 + 1 by omega]
                      exact ex.step (by omega) (by unfold SX; omega)
                    · omega
                  · skip
                    refine hd_ipush (z := 1) pkX15_readExpression rfl ?_
                    refine hd_goto pkX15_readExpression rfl ?_
                    refine hd_iadd pkX15_readExpression rfl (by omega) ?_
                    refine hd_putI pkX15_readExpression rfl (g8.cell 0 rfl).1 (g8.cell 0 rfl).2.1 (fun hh38 ehh38 => ?_)
                    have ghh38 : Str t15 r15 hh38 := by rw [ehh38]; exact g8.setF rfl
                    have jj := jj.wf_12 ehh38
                    have ww := ww.wF ehh38 (by decide) (by decide)
                    have kf4 : ga hh38 2595 4 = ga hl8 2595 4 := (ga_wr ehh38 (by decide) (by decide)).trans (if_neg (by decide))
                    have kf12 : ga hh38 2595 12 = (v35 + 1) := (ga_wr ehh38 (by decide) (by decide)).trans (if_pos rfl)
                    have ww1 : Wd 2595 [] [12] hl8 hh38 := (Wd.refl _ _ _ _).wF ehh38 (by decide) (by decide)
                    have n4 : ga hh38 2595 4 = ga hl8 2595 4 := kf4
                    have nT := ga_upn ehh38 (d := 2596) (by decide)
                    have nB := ga_upn ehh38 (d := 2598) (by decide)
                    have nE := ga_upn ehh38 (d := 2599) (by decide)
                    refine hd_goto pkX15_readExpression rfl ?_
                    refine m_sub [(0, (2, ((2595 : Nat) : Int))), (1, (0, (th + 1))), (2, (0, op)), (3, (0, 0)), (4, (0, mo))] (List.forall_mem_cons.mpr ⟨rfl, List.forall_mem_cons.mpr ⟨rfl, List.forall_mem_cons.mpr ⟨rfl, List.forall_mem_cons.mpr ⟨rfl, List.forall_mem_cons.mpr ⟨rfl, fun _ h => absurd h List.not_mem_nil⟩⟩⟩⟩⟩) ?_
                    refine ih8  ((th + 1)) (op) (0) (mo) ((ga hh38 2595 12)) hh38 ghh38 ?_ ?_ ?_ ?_ ?_ ?_ ?_ ?_ ?_ ?_ ?_
                    · exact ww
                    · exact jj
                    · rfl
                    · omega
                    · omega
                    · exact ew.wd ww1 (by decide) (by decide) (by decide)
                    · omega
                    · omega
                    · omega
                    · rw [nT, nB, nE, show ga hh38 2595 12 = a9 + 1 by omega]
                      exact ex.step (by omega) (by unfold SX; omega)
                    · omega
                · skip
                  refine hd_ipush (z := 0) pkX15_readExpression rfl ?_
                  refine hd_zret pkX15_readExpression rfl (by omega) ?_
                  subst eQ
                  refine ⟨rfl, rfl, ⟨(by show 0 ≤ (0 : Int) ∧ (0 : Int) ≤ 1; omega), ?_⟩, ww, jj, g8⟩
                  show (ga h 2595 12 ≤ ga hl8 2595 12 ∧ ga hl8 2595 12 ≤ ga h 2595 4) ∧ ((0 : Int) = 0 ∨ ∃ th, EX (ga h 2596) (ga h 2598) (ga h 2599) (ga h 2595 12) (ga hl8 2595 12) 0 0 th)
                  refine ⟨by omega, Or.inl rfl⟩
            · skip
              refine hd_aload pkX15_readExpression rfl rfl (Int.natCast_nonneg _) ?_
              refine hd_aload pkX15_readExpression rfl rfl (Int.natCast_nonneg _) ?_
              refine hd_getI pkX15_readExpression rfl (g8.cell 0 rfl).1 (g8.cell 0 rfl).2.1 (fun v39 ev39 rv39 => ?_)
              replace ev39 : v39 = ga hl8 2595 12 := ev39
              have qv39 : a9 = v39 := hat.symm.trans ev39.symm
              refine hd_callV pkX15_readExpression rfl (q := (KX15_sortOf, yX15_sortOf, 15, 1, 0)) rfl rfl rfl (As := [(0, v39)]) (rest := []) (c := 2595) rfl rfl (Nat.le_of_ble_eq_true rfl) (g8.cell 0 rfl).1 (g8.cell 0 rfl).2.1 (h_X15_sortOf jj (by omega) (by omega) g8) (hd_bI (fun w41 hc42 p40 => ?_))
              obtain ⟨p40, ehc42⟩ := p40
              replace ehc42 := ehc42.symm
              subst ehc42
              refine hd_ipush (z := 2) pkX15_readExpression rfl ?_
              refine hd_ic_ne pkX15_readExpression rfl (fun c43 => ?_) (fun c43 => ?_)
              · skip
                refine hd_ipush (z := 0) pkX15_readExpression rfl ?_
                refine hd_istore pkX15_readExpression rfl rfl ?_
                change MW _ _ _ _ _ [(5, (0, 0)), (1, (0, (th + 1))), (0, (2, ((2595 : Nat) : Int))), (2, (0, op)), (3, (0, wt)), (4, (0, mo))] _ _
                refine hd_iload pkX15_readExpression rfl rfl ?_
                refine hd_ipush (z := 30) pkX15_readExpression rfl ?_
                refine hd_ic_gt pkX15_readExpression rfl (fun c44 => ?_) (fun c44 => ?_)
                · skip
                  refine hd_ipush (z := 0) pkX15_readExpression rfl ?_
                  refine hd_zret pkX15_readExpression rfl (by omega) ?_
                  subst eQ
                  refine ⟨rfl, rfl, ⟨(by show 0 ≤ (0 : Int) ∧ (0 : Int) ≤ 1; omega), ?_⟩, ww, jj, g8⟩
                  show (ga h 2595 12 ≤ ga hl8 2595 12 ∧ ga hl8 2595 12 ≤ ga h 2595 4) ∧ ((0 : Int) = 0 ∨ ∃ th, EX (ga h 2596) (ga h 2598) (ga h 2599) (ga h 2595 12) (ga hl8 2595 12) 0 0 th)
                  refine ⟨by omega, Or.inl rfl⟩
                · skip
                  refine hd_iload pkX15_readExpression rfl rfl ?_
                  refine hd_if_ne pkX15_readExpression rfl (fun c45 => ?_) (fun c45 => ?_)
                  · skip
                    refine hd_ipush (z := 0) pkX15_readExpression rfl ?_
                    refine hd_istore pkX15_readExpression rfl rfl ?_
                    change MW _ _ _ _ _ [(3, (0, 0)), (5, (0, 0)), (1, (0, (th + 1))), (0, (2, ((2595 : Nat) : Int))), (2, (0, op)), (4, (0, mo))] _ _
                    refine hd_goto pkX15_readExpression rfl ?_
                    refine hd_aload pkX15_readExpression rfl rfl (Int.natCast_nonneg _) ?_
                    refine hd_dup pkX15_readExpression rfl rfl ?_
                    refine hd_getI pkX15_readExpression rfl (g8.cell 0 rfl).1 (g8.cell 0 rfl).2.1 (fun v46 ev46 rv46 => ?_)
                    replace ev46 : v46 = ga hl8 2595 12 := ev46
                    have qv46 : a9 = v46 := hat.symm.trans ev46.symm
                    refine hd_iload pkX15_readExpression rfl rfl ?_
                    refine hd_if_eq pkX15_readExpression rfl (fun c47 => ?_) (fun c47 => ?_)
                    · skip
                      refine hd_ipush (z := 0) pkX15_readExpression rfl ?_
                      refine hd_iadd pkX15_readExpression rfl (by omega) ?_
                      refine hd_putI pkX15_readExpression rfl (g8.cell 0 rfl).1 (g8.cell 0 rfl).2.1 (fun hh48 ehh48 => ?_)
                      have ghh48 : Str t15 r15 hh48 := by rw [ehh48]; exact g8.setF rfl
                      have jj := jj.wf_12 ehh48
                      have ww := ww.wF ehh48 (by decide) (by decide)
                      have kf4 : ga hh48 2595 4 = ga hl8 2595 4 := (ga_wr ehh48 (by decide) (by decide)).trans (if_neg (by decide))
                      have kf12 : ga hh48 2595 12 = (v46 + 0) := (ga_wr ehh48 (by decide) (by decide)).trans (if_pos rfl)
                      have ww1 : Wd 2595 [] [12] hl8 hh48 := (Wd.refl _ _ _ _).wF ehh48 (by decide) (by decide)
                      have n4 : ga hh48 2595 4 = ga hl8 2595 4 := kf4
                      have nT := ga_upn ehh48 (d := 2596) (by decide)
                      have nB := ga_upn ehh48 (d := 2598) (by decide)
                      have nE := ga_upn ehh48 (d := 2599) (by decide)
                      refine hd_goto pkX15_readExpression rfl ?_
                      refine m_sub [(0, (2, ((2595 : Nat) : Int))), (1, (0, (th + 1))), (2, (0, op)), (3, (0, 0)), (4, (0, mo))] (List.forall_mem_cons.mpr ⟨rfl, List.forall_mem_cons.mpr ⟨rfl, List.forall_mem_cons.mpr ⟨rfl, List.forall_mem_cons.mpr ⟨rfl, List.forall_mem_cons.mpr ⟨rfl, fun _ h => absurd h List.not_mem_nil⟩⟩⟩⟩⟩) ?_
                      refine ih8  ((th + 1)) (op) (0) (mo) ((ga hh48 2595 12)) hh48 ghh48 ?_ ?_ ?_ ?_ ?_ ?_ ?_ ?_ ?_ ?_ ?_
                      · exact ww
                      · exact jj
                      · rfl
                      · omega
                      · omega
                      · exact ew.wd ww1 (by decide) (by decide) (by decide)
                      · omega
                      · omega
                      · omega
                      · rw [nT, nB, nE, show ga hh48 2595 12 = a9 + 1 by omega]
                        exact ex.step (by omega) (by unfold SX; omega)
                      · omega
                    · skip
                      refine hd_ipush (z := 1) pkX15_readExpression rfl ?_
                      refine hd_goto pkX15_readExpression rfl ?_
                      refine hd_iadd pkX15_readExpression rfl (by omega) ?_
                      refine hd_putI pkX15_readExpression rfl (g8.cell 0 rfl).1 (g8.cell 0 rfl).2.1 (fun hh49 ehh49 => ?_)
                      have ghh49 : Str t15 r15 hh49 := by rw [ehh49]; exact g8.setF rfl
                      have jj := jj.wf_12 ehh49
                      have ww := ww.wF ehh49 (by decide) (by decide)
                      have kf4 : ga hh49 2595 4 = ga hl8 2595 4 := (ga_wr ehh49 (by decide) (by decide)).trans (if_neg (by decide))
                      have kf12 : ga hh49 2595 12 = (v46 + 1) := (ga_wr ehh49 (by decide) (by decide)).trans (if_pos rfl)
                      have ww1 : Wd 2595 [] [12] hl8 hh49 := (Wd.refl _ _ _ _).wF ehh49 (by decide) (by decide)
                      have n4 : ga hh49 2595 4 = ga hl8 2595 4 := kf4
                      have nT := ga_upn ehh49 (d := 2596) (by decide)
                      have nB := ga_upn ehh49 (d := 2598) (by decide)
                      have nE := ga_upn ehh49 (d := 2599) (by decide)
                      refine hd_goto pkX15_readExpression rfl ?_
                      refine m_sub [(0, (2, ((2595 : Nat) : Int))), (1, (0, (th + 1))), (2, (0, op)), (3, (0, 0)), (4, (0, mo))] (List.forall_mem_cons.mpr ⟨rfl, List.forall_mem_cons.mpr ⟨rfl, List.forall_mem_cons.mpr ⟨rfl, List.forall_mem_cons.mpr ⟨rfl, List.forall_mem_cons.mpr ⟨rfl, fun _ h => absurd h List.not_mem_nil⟩⟩⟩⟩⟩) ?_
                      refine ih8  ((th + 1)) (op) (0) (mo) ((ga hh49 2595 12)) hh49 ghh49 ?_ ?_ ?_ ?_ ?_ ?_ ?_ ?_ ?_ ?_ ?_
                      · exact ww
                      · exact jj
                      · rfl
                      · omega
                      · omega
                      · exact ew.wd ww1 (by decide) (by decide) (by decide)
                      · omega
                      · omega
                      · omega
                      · rw [nT, nB, nE, show ga hh49 2595 12 = a9 + 1 by omega]
                        exact ex.step (by omega) (by unfold SX; omega)
                      · omega
                  · skip
                    refine hd_ipush (z := 0) pkX15_readExpression rfl ?_
                    refine hd_zret pkX15_readExpression rfl (by omega) ?_
                    subst eQ
                    refine ⟨rfl, rfl, ⟨(by show 0 ≤ (0 : Int) ∧ (0 : Int) ≤ 1; omega), ?_⟩, ww, jj, g8⟩
                    show (ga h 2595 12 ≤ ga hl8 2595 12 ∧ ga hl8 2595 12 ≤ ga h 2595 4) ∧ ((0 : Int) = 0 ∨ ∃ th, EX (ga h 2596) (ga h 2598) (ga h 2599) (ga h 2595 12) (ga hl8 2595 12) 0 0 th)
                    refine ⟨by omega, Or.inl rfl⟩
              · skip
                refine hd_aload pkX15_readExpression rfl rfl (Int.natCast_nonneg _) ?_
                refine hd_aload pkX15_readExpression rfl rfl (Int.natCast_nonneg _) ?_
                refine hd_getI pkX15_readExpression rfl (g8.cell 0 rfl).1 (g8.cell 0 rfl).2.1 (fun v50 ev50 rv50 => ?_)
                replace ev50 : v50 = ga hl8 2595 12 := ev50
                have qv50 : a9 = v50 := hat.symm.trans ev50.symm
                refine hd_callV pkX15_readExpression rfl (q := (KX15_length, yX15_length, 15, 1, 0)) rfl rfl rfl (As := [(0, v50)]) (rest := []) (c := 2595) rfl rfl (Nat.le_of_ble_eq_true rfl) (g8.cell 0 rfl).1 (g8.cell 0 rfl).2.1 (h_X15_length jj (by omega) g8) (hd_bI (fun w52 hc53 p51 => ?_))
                obtain ⟨p51, ehc53⟩ := p51
                replace ehc53 := ehc53.symm
                subst ehc53
                refine hd_ipush (z := 5) pkX15_readExpression rfl ?_
                refine hd_ic_ge pkX15_readExpression rfl (fun c54 => ?_) (fun c54 => ?_)
                · skip
                  refine hd_ipush (z := 0) pkX15_readExpression rfl ?_
                  refine hd_istore pkX15_readExpression rfl rfl ?_
                  change MW _ _ _ _ _ [(5, (0, 0)), (1, (0, (th + 1))), (0, (2, ((2595 : Nat) : Int))), (2, (0, op)), (3, (0, wt)), (4, (0, mo))] _ _
                  refine hd_iload pkX15_readExpression rfl rfl ?_
                  refine hd_ipush (z := 30) pkX15_readExpression rfl ?_
                  refine hd_ic_gt pkX15_readExpression rfl (fun c55 => ?_) (fun c55 => ?_)
                  · skip
                    refine hd_ipush (z := 0) pkX15_readExpression rfl ?_
                    refine hd_zret pkX15_readExpression rfl (by omega) ?_
                    subst eQ
                    refine ⟨rfl, rfl, ⟨(by show 0 ≤ (0 : Int) ∧ (0 : Int) ≤ 1; omega), ?_⟩, ww, jj, g8⟩
                    show (ga h 2595 12 ≤ ga hl8 2595 12 ∧ ga hl8 2595 12 ≤ ga h 2595 4) ∧ ((0 : Int) = 0 ∨ ∃ th, EX (ga h 2596) (ga h 2598) (ga h 2599) (ga h 2595 12) (ga hl8 2595 12) 0 0 th)
                    refine ⟨by omega, Or.inl rfl⟩
                  · skip
                    refine hd_iload pkX15_readExpression rfl rfl ?_
                    refine hd_if_ne pkX15_readExpression rfl (fun c56 => ?_) (fun c56 => ?_)
                    · skip
                      refine hd_ipush (z := 0) pkX15_readExpression rfl ?_
                      refine hd_istore pkX15_readExpression rfl rfl ?_
                      change MW _ _ _ _ _ [(3, (0, 0)), (5, (0, 0)), (1, (0, (th + 1))), (0, (2, ((2595 : Nat) : Int))), (2, (0, op)), (4, (0, mo))] _ _
                      refine hd_goto pkX15_readExpression rfl ?_
                      refine hd_aload pkX15_readExpression rfl rfl (Int.natCast_nonneg _) ?_
                      refine hd_dup pkX15_readExpression rfl rfl ?_
                      refine hd_getI pkX15_readExpression rfl (g8.cell 0 rfl).1 (g8.cell 0 rfl).2.1 (fun v57 ev57 rv57 => ?_)
                      replace ev57 : v57 = ga hl8 2595 12 := ev57
                      have qv57 : a9 = v57 := hat.symm.trans ev57.symm
                      refine hd_iload pkX15_readExpression rfl rfl ?_
                      refine hd_if_eq pkX15_readExpression rfl (fun c58 => ?_) (fun c58 => ?_)
                      · skip
                        refine hd_ipush (z := 0) pkX15_readExpression rfl ?_
                        refine hd_iadd pkX15_readExpression rfl (by omega) ?_
                        refine hd_putI pkX15_readExpression rfl (g8.cell 0 rfl).1 (g8.cell 0 rfl).2.1 (fun hh59 ehh59 => ?_)
                        have ghh59 : Str t15 r15 hh59 := by rw [ehh59]; exact g8.setF rfl
                        have jj := jj.wf_12 ehh59
                        have ww := ww.wF ehh59 (by decide) (by decide)
                        have kf4 : ga hh59 2595 4 = ga hl8 2595 4 := (ga_wr ehh59 (by decide) (by decide)).trans (if_neg (by decide))
                        have kf12 : ga hh59 2595 12 = (v57 + 0) := (ga_wr ehh59 (by decide) (by decide)).trans (if_pos rfl)
                        have ww1 : Wd 2595 [] [12] hl8 hh59 := (Wd.refl _ _ _ _).wF ehh59 (by decide) (by decide)
                        have n4 : ga hh59 2595 4 = ga hl8 2595 4 := kf4
                        have nT := ga_upn ehh59 (d := 2596) (by decide)
                        have nB := ga_upn ehh59 (d := 2598) (by decide)
                        have nE := ga_upn ehh59 (d := 2599) (by decide)
                        refine hd_goto pkX15_readExpression rfl ?_
                        refine m_sub [(0, (2, ((2595 : Nat) : Int))), (1, (0, (th + 1))), (2, (0, op)), (3, (0, 0)), (4, (0, mo))] (List.forall_mem_cons.mpr ⟨rfl, List.forall_mem_cons.mpr ⟨rfl, List.forall_mem_cons.mpr ⟨rfl, List.forall_mem_cons.mpr ⟨rfl, List.forall_mem_cons.mpr ⟨rfl, fun _ h => absurd h List.not_mem_nil⟩⟩⟩⟩⟩) ?_
                        refine ih8  ((th + 1)) (op) (0) (mo) ((ga hh59 2595 12)) hh59 ghh59 ?_ ?_ ?_ ?_ ?_ ?_ ?_ ?_ ?_ ?_ ?_
                        · exact ww
                        · exact jj
                        · rfl
                        · omega
                        · omega
                        · exact ew.wd ww1 (by decide) (by decide) (by decide)
                        · omega
                        · omega
                        · omega
                        · rw [nT, nB, nE, show ga hh59 2595 12 = a9 + 1 by omega]
                          exact ex.step (by omega) (by unfold SX; omega)
                        · omega
                      · skip
                        refine hd_ipush (z := 1) pkX15_readExpression rfl ?_
                        refine hd_goto pkX15_readExpression rfl ?_
                        refine hd_iadd pkX15_readExpression rfl (by omega) ?_
                        refine hd_putI pkX15_readExpression rfl (g8.cell 0 rfl).1 (g8.cell 0 rfl).2.1 (fun hh60 ehh60 => ?_)
                        have ghh60 : Str t15 r15 hh60 := by rw [ehh60]; exact g8.setF rfl
                        have jj := jj.wf_12 ehh60
                        have ww := ww.wF ehh60 (by decide) (by decide)
                        have kf4 : ga hh60 2595 4 = ga hl8 2595 4 := (ga_wr ehh60 (by decide) (by decide)).trans (if_neg (by decide))
                        have kf12 : ga hh60 2595 12 = (v57 + 1) := (ga_wr ehh60 (by decide) (by decide)).trans (if_pos rfl)
                        have ww1 : Wd 2595 [] [12] hl8 hh60 := (Wd.refl _ _ _ _).wF ehh60 (by decide) (by decide)
                        have n4 : ga hh60 2595 4 = ga hl8 2595 4 := kf4
                        have nT := ga_upn ehh60 (d := 2596) (by decide)
                        have nB := ga_upn ehh60 (d := 2598) (by decide)
                        have nE := ga_upn ehh60 (d := 2599) (by decide)
                        refine hd_goto pkX15_readExpression rfl ?_
                        refine m_sub [(0, (2, ((2595 : Nat) : Int))), (1, (0, (th + 1))), (2, (0, op)), (3, (0, 0)), (4, (0, mo))] (List.forall_mem_cons.mpr ⟨rfl, List.forall_mem_cons.mpr ⟨rfl, List.forall_mem_cons.mpr ⟨rfl, List.forall_mem_cons.mpr ⟨rfl, List.forall_mem_cons.mpr ⟨rfl, fun _ h => absurd h List.not_mem_nil⟩⟩⟩⟩⟩) ?_
                        refine ih8  ((th + 1)) (op) (0) (mo) ((ga hh60 2595 12)) hh60 ghh60 ?_ ?_ ?_ ?_ ?_ ?_ ?_ ?_ ?_ ?_ ?_
                        · exact ww
                        · exact jj
                        · rfl
                        · omega
                        · omega
                        · exact ew.wd ww1 (by decide) (by decide) (by decide)
                        · omega
                        · omega
                        · omega
                        · rw [nT, nB, nE, show ga hh60 2595 12 = a9 + 1 by omega]
                          exact ex.step (by omega) (by unfold SX; omega)
                        · omega
                    · skip
                      refine hd_ipush (z := 0) pkX15_readExpression rfl ?_
                      refine hd_zret pkX15_readExpression rfl (by omega) ?_
                      subst eQ
                      refine ⟨rfl, rfl, ⟨(by show 0 ≤ (0 : Int) ∧ (0 : Int) ≤ 1; omega), ?_⟩, ww, jj, g8⟩
                      show (ga h 2595 12 ≤ ga hl8 2595 12 ∧ ga hl8 2595 12 ≤ ga h 2595 4) ∧ ((0 : Int) = 0 ∨ ∃ th, EX (ga h 2596) (ga h 2598) (ga h 2599) (ga h 2595 12) (ga hl8 2595 12) 0 0 th)
                      refine ⟨by omega, Or.inl rfl⟩
                · skip
                  refine hd_ipush (z := 1) pkX15_readExpression rfl ?_
                  refine hd_goto pkX15_readExpression rfl ?_
                  refine hd_istore pkX15_readExpression rfl rfl ?_
                  change MW _ _ _ _ _ [(5, (0, 1)), (1, (0, (th + 1))), (0, (2, ((2595 : Nat) : Int))), (2, (0, op)), (3, (0, wt)), (4, (0, mo))] _ _
                  refine hd_iload pkX15_readExpression rfl rfl ?_
                  refine hd_ipush (z := 30) pkX15_readExpression rfl ?_
                  refine hd_ic_gt pkX15_readExpression rfl (fun c61 => ?_) (fun c61 => ?_)
                  · skip
                    refine hd_ipush (z := 0) pkX15_readExpression rfl ?_
                    refine hd_zret pkX15_readExpression rfl (by omega) ?_
                    subst eQ
                    refine ⟨rfl, rfl, ⟨(by show 0 ≤ (0 : Int) ∧ (0 : Int) ≤ 1; omega), ?_⟩, ww, jj, g8⟩
                    show (ga h 2595 12 ≤ ga hl8 2595 12 ∧ ga hl8 2595 12 ≤ ga h 2595 4) ∧ ((0 : Int) = 0 ∨ ∃ th, EX (ga h 2596) (ga h 2598) (ga h 2599) (ga h 2595 12) (ga hl8 2595 12) 0 0 th)
                    refine ⟨by omega, Or.inl rfl⟩
                  · skip
                    refine hd_iload pkX15_readExpression rfl rfl ?_
                    refine hd_if_ne pkX15_readExpression rfl (fun c62 => ?_) (fun c62 => ?_)
                    · skip
                      refine hd_ipush (z := 0) pkX15_readExpression rfl ?_
                      refine hd_istore pkX15_readExpression rfl rfl ?_
                      change MW _ _ _ _ _ [(3, (0, 0)), (5, (0, 1)), (1, (0, (th + 1))), (0, (2, ((2595 : Nat) : Int))), (2, (0, op)), (4, (0, mo))] _ _
                      refine hd_goto pkX15_readExpression rfl ?_
                      refine hd_aload pkX15_readExpression rfl rfl (Int.natCast_nonneg _) ?_
                      refine hd_dup pkX15_readExpression rfl rfl ?_
                      refine hd_getI pkX15_readExpression rfl (g8.cell 0 rfl).1 (g8.cell 0 rfl).2.1 (fun v63 ev63 rv63 => ?_)
                      replace ev63 : v63 = ga hl8 2595 12 := ev63
                      have qv63 : a9 = v63 := hat.symm.trans ev63.symm
                      refine hd_iload pkX15_readExpression rfl rfl ?_
                      refine hd_if_eq pkX15_readExpression rfl (fun c64 => ?_) (fun c64 => ?_)
                      · skip
                        refine hd_ipush (z := 0) pkX15_readExpression rfl ?_
                        refine hd_iadd pkX15_readExpression rfl (by omega) ?_
                        refine hd_putI pkX15_readExpression rfl (g8.cell 0 rfl).1 (g8.cell 0 rfl).2.1 (fun hh65 ehh65 => ?_)
                        have ghh65 : Str t15 r15 hh65 := by rw [ehh65]; exact g8.setF rfl
                        have jj := jj.wf_12 ehh65
                        have ww := ww.wF ehh65 (by decide) (by decide)
                        have kf4 : ga hh65 2595 4 = ga hl8 2595 4 := (ga_wr ehh65 (by decide) (by decide)).trans (if_neg (by decide))
                        have kf12 : ga hh65 2595 12 = (v63 + 0) := (ga_wr ehh65 (by decide) (by decide)).trans (if_pos rfl)
                        have ww1 : Wd 2595 [] [12] hl8 hh65 := (Wd.refl _ _ _ _).wF ehh65 (by decide) (by decide)
                        have n4 : ga hh65 2595 4 = ga hl8 2595 4 := kf4
                        have nT := ga_upn ehh65 (d := 2596) (by decide)
                        have nB := ga_upn ehh65 (d := 2598) (by decide)
                        have nE := ga_upn ehh65 (d := 2599) (by decide)
                        refine hd_goto pkX15_readExpression rfl ?_
                        refine m_sub [(0, (2, ((2595 : Nat) : Int))), (1, (0, (th + 1))), (2, (0, op)), (3, (0, 0)), (4, (0, mo))] (List.forall_mem_cons.mpr ⟨rfl, List.forall_mem_cons.mpr ⟨rfl, List.forall_mem_cons.mpr ⟨rfl, List.forall_mem_cons.mpr ⟨rfl, List.forall_mem_cons.mpr ⟨rfl, fun _ h => absurd h List.not_mem_nil⟩⟩⟩⟩⟩) ?_
                        refine ih8  ((th + 1)) (op) (0) (mo) ((ga hh65 2595 12)) hh65 ghh65 ?_ ?_ ?_ ?_ ?_ ?_ ?_ ?_ ?_ ?_ ?_
                        · exact ww
                        · exact jj
                        · rfl
                        · omega
                        · omega
                        · exact ew.wd ww1 (by decide) (by decide) (by decide)
                        · omega
                        · omega
                        · omega
                        · rw [nT, nB, nE, show ga hh65 2595 12 = a9 + 1 by omega]
                          exact ex.step (by omega) (by unfold SX; omega)
                        · omega
                      · skip
                        refine hd_ipush (z := 1) pkX15_readExpression rfl ?_
                        refine hd_goto pkX15_readExpression rfl ?_
                        refine hd_iadd pkX15_readExpression rfl (by omega) ?_
                        refine hd_putI pkX15_readExpression rfl (g8.cell 0 rfl).1 (g8.cell 0 rfl).2.1 (fun hh66 ehh66 => ?_)
                        have ghh66 : Str t15 r15 hh66 := by rw [ehh66]; exact g8.setF rfl
                        have jj := jj.wf_12 ehh66
                        have ww := ww.wF ehh66 (by decide) (by decide)
                        have kf4 : ga hh66 2595 4 = ga hl8 2595 4 := (ga_wr ehh66 (by decide) (by decide)).trans (if_neg (by decide))
                        have kf12 : ga hh66 2595 12 = (v63 + 1) := (ga_wr ehh66 (by decide) (by decide)).trans (if_pos rfl)
                        have ww1 : Wd 2595 [] [12] hl8 hh66 := (Wd.refl _ _ _ _).wF ehh66 (by decide) (by decide)
                        have n4 : ga hh66 2595 4 = ga hl8 2595 4 := kf4
                        have nT := ga_upn ehh66 (d := 2596) (by decide)
                        have nB := ga_upn ehh66 (d := 2598) (by decide)
                        have nE := ga_upn ehh66 (d := 2599) (by decide)
                        refine hd_goto pkX15_readExpression rfl ?_
                        refine m_sub [(0, (2, ((2595 : Nat) : Int))), (1, (0, (th + 1))), (2, (0, op)), (3, (0, 0)), (4, (0, mo))] (List.forall_mem_cons.mpr ⟨rfl, List.forall_mem_cons.mpr ⟨rfl, List.forall_mem_cons.mpr ⟨rfl, List.forall_mem_cons.mpr ⟨rfl, List.forall_mem_cons.mpr ⟨rfl, fun _ h => absurd h List.not_mem_nil⟩⟩⟩⟩⟩) ?_
                        refine ih8  ((th + 1)) (op) (0) (mo) ((ga hh66 2595 12)) hh66 ghh66 ?_ ?_ ?_ ?_ ?_ ?_ ?_ ?_ ?_ ?_ ?_
                        · exact ww
                        · exact jj
                        · rfl
                        · omega
                        · omega
                        · exact ew.wd ww1 (by decide) (by decide) (by decide)
                        · omega
                        · omega
                        · omega
                        · rw [nT, nB, nE, show ga hh66 2595 12 = a9 + 1 by omega]
                          exact ex.step (by omega) (by unfold SX; omega)
                        · omega
                    · skip
                      refine hd_ipush (z := 0) pkX15_readExpression rfl ?_
                      refine hd_zret pkX15_readExpression rfl (by omega) ?_
                      subst eQ
                      refine ⟨rfl, rfl, ⟨(by show 0 ≤ (0 : Int) ∧ (0 : Int) ≤ 1; omega), ?_⟩, ww, jj, g8⟩
                      show (ga h 2595 12 ≤ ga hl8 2595 12 ∧ ga hl8 2595 12 ≤ ga h 2595 4) ∧ ((0 : Int) = 0 ∨ ∃ th, EX (ga h 2596) (ga h 2598) (ga h 2599) (ga h 2595 12) (ga hl8 2595 12) 0 0 th)
                      refine ⟨by omega, Or.inl rfl⟩
        · skip
          refine hd_aload pkX15_readExpression rfl rfl (Int.natCast_nonneg _) ?_
          refine hd_aload pkX15_readExpression rfl rfl (Int.natCast_nonneg _) ?_
          refine hd_getR (n := 2596) pkX15_readExpression rfl (g8.cell 0 rfl).1 (g8.cell 0 rfl).2.1 (g8.ref 0 rfl) ?_
          refine hd_aload pkX15_readExpression rfl rfl (Int.natCast_nonneg _) ?_
          refine hd_getI pkX15_readExpression rfl (g8.cell 0 rfl).1 (g8.cell 0 rfl).2.1 (fun v67 ev67 rv67 => ?_)
          replace ev67 : v67 = ga hl8 2595 12 := ev67
          have qv67 : a9 = v67 := hat.symm.trans ev67.symm
          refine hd_ipush (z := 40) pkX15_readExpression rfl ?_
          refine hd_callV pkX15_readExpression rfl (q := (KX15_is, yX15_is, 15, 3, 0)) rfl rfl rfl (As := [(2, ((2596 : Nat) : Int)), (0, v67), (0, 40)]) (rest := []) (c := 2595) rfl rfl (Nat.le_of_ble_eq_true rfl) (g8.cell 0 rfl).1 (g8.cell 0 rfl).2.1 (h_X15_is_2596 jj (by omega) g8) (hd_bI (fun w69 hc70 p68 => ?_))
          obtain ⟨p68, ehc70⟩ := p68
          replace ehc70 := ehc70.symm
          subst ehc70
          refine hd_if_eq pkX15_readExpression rfl (fun c71 => ?_) (fun c71 => ?_)
          · skip
            refine hd_iload pkX15_readExpression rfl rfl ?_
            refine hd_if_eq pkX15_readExpression rfl (fun c72 => ?_) (fun c72 => ?_)
            · skip
              refine hd_aload pkX15_readExpression rfl rfl (Int.natCast_nonneg _) ?_
              refine hd_aload pkX15_readExpression rfl rfl (Int.natCast_nonneg _) ?_
              refine hd_getR (n := 2596) pkX15_readExpression rfl (g8.cell 0 rfl).1 (g8.cell 0 rfl).2.1 (g8.ref 0 rfl) ?_
              refine hd_aload pkX15_readExpression rfl rfl (Int.natCast_nonneg _) ?_
              refine hd_getI pkX15_readExpression rfl (g8.cell 0 rfl).1 (g8.cell 0 rfl).2.1 (fun v73 ev73 rv73 => ?_)
              replace ev73 : v73 = ga hl8 2595 12 := ev73
              have qv73 : a9 = v73 := hat.symm.trans ev73.symm
              refine hd_callV pkX15_readExpression rfl (q := (KX15_isSign, yX15_isSign, 15, 2, 0)) rfl rfl rfl (As := [(2, ((2596 : Nat) : Int)), (0, v73)]) (rest := []) (c := 2595) rfl rfl (Nat.le_of_ble_eq_true rfl) (g8.cell 0 rfl).1 (g8.cell 0 rfl).2.1 (h_X15_isSign_2596 jj (by omega) g8) (hd_bI (fun w75 hc76 p74 => ?_))
              obtain ⟨p74, ehc76⟩ := p74
              replace ehc76 := ehc76.symm
              subst ehc76
              refine hd_if_eq pkX15_readExpression rfl (fun c77 => ?_) (fun c77 => ?_)
              · skip
                refine hd_iload pkX15_readExpression rfl rfl ?_
                refine hd_if_le pkX15_readExpression rfl (fun c78 => ?_) (fun c78 => ?_)
                · skip
                  refine hd_ipush (z := 0) pkX15_readExpression rfl ?_
                  refine hd_istore pkX15_readExpression rfl rfl ?_
                  change MW _ _ _ _ _ [(4, (0, 0)), (0, (2, ((2595 : Nat) : Int))), (1, (0, th)), (2, (0, op)), (3, (0, wt))] _ _
                  refine hd_aload pkX15_readExpression rfl rfl (Int.natCast_nonneg _) ?_
                  refine hd_dup pkX15_readExpression rfl rfl ?_
                  refine hd_getI pkX15_readExpression rfl (g8.cell 0 rfl).1 (g8.cell 0 rfl).2.1 (fun v79 ev79 rv79 => ?_)
                  replace ev79 : v79 = ga hl8 2595 12 := ev79
                  have qv79 : a9 = v79 := hat.symm.trans ev79.symm
                  refine hd_iload pkX15_readExpression rfl rfl ?_
                  refine hd_if_eq pkX15_readExpression rfl (fun c80 => ?_) (fun c80 => ?_)
                  · skip
                    refine hd_ipush (z := 0) pkX15_readExpression rfl ?_
                    refine hd_iadd pkX15_readExpression rfl (by omega) ?_
                    refine hd_putI pkX15_readExpression rfl (g8.cell 0 rfl).1 (g8.cell 0 rfl).2.1 (fun hh81 ehh81 => ?_)
                    have ghh81 : Str t15 r15 hh81 := by rw [ehh81]; exact g8.setF rfl
                    have jj := jj.wf_12 ehh81
                    have ww := ww.wF ehh81 (by decide) (by decide)
                    have kf4 : ga hh81 2595 4 = ga hl8 2595 4 := (ga_wr ehh81 (by decide) (by decide)).trans (if_neg (by decide))
                    have kf12 : ga hh81 2595 12 = (v79 + 0) := (ga_wr ehh81 (by decide) (by decide)).trans (if_pos rfl)
                    have ww1 : Wd 2595 [] [12] hl8 hh81 := (Wd.refl _ _ _ _).wF ehh81 (by decide) (by decide)
                    have n4 : ga hh81 2595 4 = ga hl8 2595 4 := kf4
                    have nT := ga_upn ehh81 (d := 2596) (by decide)
                    have nB := ga_upn ehh81 (d := 2598) (by decide)
                    have nE := ga_upn ehh81 (d := 2599) (by decide)
                    refine hd_goto pkX15_readExpression rfl ?_
                    refine m_sub [(0, (2, ((2595 : Nat) : Int))), (1, (0, th)), (2, (0, op)), (3, (0, wt)), (4, (0, 0))] (List.forall_mem_cons.mpr ⟨rfl, List.forall_mem_cons.mpr ⟨rfl, List.forall_mem_cons.mpr ⟨rfl, List.forall_mem_cons.mpr ⟨rfl, List.forall_mem_cons.mpr ⟨rfl, fun _ h => absurd h List.not_mem_nil⟩⟩⟩⟩⟩) ?_
                    refine ih8  (th) (op) (wt) (0) ((ga hh81 2595 12)) hh81 ghh81 ?_ ?_ ?_ ?_ ?_ ?_ ?_ ?_ ?_ ?_ ?_
                    · exact ww
                    · exact jj
                    · rfl
                    · omega
                    · omega
                    · exact ew.wd ww1 (by decide) (by decide) (by decide)
                    · omega
                    · omega
                    · omega
                    · rw [nT, nB, nE, show ga hh81 2595 12 = a9 by omega]
                      exact ex
                    · omega
                  · skip
                    refine hd_ipush (z := 1) pkX15_readExpression rfl ?_
                    refine hd_goto pkX15_readExpression rfl ?_
                    refine hd_iadd pkX15_readExpression rfl (by omega) ?_
                    refine hd_putI pkX15_readExpression rfl (g8.cell 0 rfl).1 (g8.cell 0 rfl).2.1 (fun hh82 ehh82 => ?_)
                    have ghh82 : Str t15 r15 hh82 := by rw [ehh82]; exact g8.setF rfl
                    have jj := jj.wf_12 ehh82
                    have ww := ww.wF ehh82 (by decide) (by decide)
                    have kf4 : ga hh82 2595 4 = ga hl8 2595 4 := (ga_wr ehh82 (by decide) (by decide)).trans (if_neg (by decide))
                    have kf12 : ga hh82 2595 12 = (v79 + 1) := (ga_wr ehh82 (by decide) (by decide)).trans (if_pos rfl)
                    have ww1 : Wd 2595 [] [12] hl8 hh82 := (Wd.refl _ _ _ _).wF ehh82 (by decide) (by decide)
                    have n4 : ga hh82 2595 4 = ga hl8 2595 4 := kf4
                    have nT := ga_upn ehh82 (d := 2596) (by decide)
                    have nB := ga_upn ehh82 (d := 2598) (by decide)
                    have nE := ga_upn ehh82 (d := 2599) (by decide)
                    refine hd_goto pkX15_readExpression rfl ?_
                    refine m_sub [(0, (2, ((2595 : Nat) : Int))), (1, (0, th)), (2, (0, op)), (3, (0, wt)), (4, (0, 0))] (List.forall_mem_cons.mpr ⟨rfl, List.forall_mem_cons.mpr ⟨rfl, List.forall_mem_cons.mpr ⟨rfl, List.forall_mem_cons.mpr ⟨rfl, List.forall_mem_cons.mpr ⟨rfl, fun _ h => absurd h List.not_mem_nil⟩⟩⟩⟩⟩) ?_
                    refine ih8  (th) (op) (wt) (0) ((ga hh82 2595 12)) hh82 ghh82 ?_ ?_ ?_ ?_ ?_ ?_ ?_ ?_ ?_ ?_ ?_
                    · exact ww
                    · exact jj
                    · rfl
                    · omega
                    · omega
                    · exact ew.wd ww1 (by decide) (by decide) (by decide)
                    · omega
                    · omega
                    · omega
                    · rw [nT, nB, nE, show ga hh82 2595 12 = a9 by omega]
                      exact ex
                    · omega
                · skip
                  refine hd_aload pkX15_readExpression rfl rfl (Int.natCast_nonneg _) ?_
                  refine hd_aload pkX15_readExpression rfl rfl (Int.natCast_nonneg _) ?_
                  refine hd_getR (n := 2596) pkX15_readExpression rfl (g8.cell 0 rfl).1 (g8.cell 0 rfl).2.1 (g8.ref 0 rfl) ?_
                  refine hd_aload pkX15_readExpression rfl rfl (Int.natCast_nonneg _) ?_
                  refine hd_getI pkX15_readExpression rfl (g8.cell 0 rfl).1 (g8.cell 0 rfl).2.1 (fun v83 ev83 rv83 => ?_)
                  replace ev83 : v83 = ga hl8 2595 12 := ev83
                  have qv83 : a9 = v83 := hat.symm.trans ev83.symm
                  refine hd_ipush (z := 41) pkX15_readExpression rfl ?_
                  refine hd_callV pkX15_readExpression rfl (q := (KX15_is, yX15_is, 15, 3, 0)) rfl rfl rfl (As := [(2, ((2596 : Nat) : Int)), (0, v83), (0, 41)]) (rest := []) (c := 2595) rfl rfl (Nat.le_of_ble_eq_true rfl) (g8.cell 0 rfl).1 (g8.cell 0 rfl).2.1 (h_X15_is_2596 jj (by omega) g8) (hd_bI (fun w85 hc86 p84 => ?_))
                  obtain ⟨p84, ehc86⟩ := p84
                  replace ehc86 := ehc86.symm
                  subst ehc86
                  refine hd_if_ne pkX15_readExpression rfl (fun c87 => ?_) (fun c87 => ?_)
                  · skip
                    refine hd_iinc (z := (-1)) pkX15_readExpression rfl rfl (by omega) rfl ?_
                    change MW _ _ _ _ _ [(2, (0, (op + (-1)))), (0, (2, ((2595 : Nat) : Int))), (1, (0, th)), (3, (0, wt)), (4, (0, mo))] _ _
                    refine hd_goto pkX15_readExpression rfl ?_
                    refine hd_aload pkX15_readExpression rfl rfl (Int.natCast_nonneg _) ?_
                    refine hd_dup pkX15_readExpression rfl rfl ?_
                    refine hd_getI pkX15_readExpression rfl (g8.cell 0 rfl).1 (g8.cell 0 rfl).2.1 (fun v88 ev88 rv88 => ?_)
                    replace ev88 : v88 = ga hl8 2595 12 := ev88
                    have qv88 : a9 = v88 := hat.symm.trans ev88.symm
                    refine hd_iload pkX15_readExpression rfl rfl ?_
                    refine hd_if_eq pkX15_readExpression rfl (fun c89 => ?_) (fun c89 => ?_)
                    · skip
                      refine hd_ipush (z := 0) pkX15_readExpression rfl ?_
                      refine hd_iadd pkX15_readExpression rfl (by omega) ?_
                      refine hd_putI pkX15_readExpression rfl (g8.cell 0 rfl).1 (g8.cell 0 rfl).2.1 (fun hh90 ehh90 => ?_)
                      have ghh90 : Str t15 r15 hh90 := by rw [ehh90]; exact g8.setF rfl
                      have jj := jj.wf_12 ehh90
                      have ww := ww.wF ehh90 (by decide) (by decide)
                      have kf4 : ga hh90 2595 4 = ga hl8 2595 4 := (ga_wr ehh90 (by decide) (by decide)).trans (if_neg (by decide))
                      have kf12 : ga hh90 2595 12 = (v88 + 0) := (ga_wr ehh90 (by decide) (by decide)).trans (if_pos rfl)
                      have ww1 : Wd 2595 [] [12] hl8 hh90 := (Wd.refl _ _ _ _).wF ehh90 (by decide) (by decide)
                      have n4 : ga hh90 2595 4 = ga hl8 2595 4 := kf4
                      have nT := ga_upn ehh90 (d := 2596) (by decide)
                      have nB := ga_upn ehh90 (d := 2598) (by decide)
                      have nE := ga_upn ehh90 (d := 2599) (by decide)
                      refine hd_goto pkX15_readExpression rfl ?_
                      refine m_sub [(0, (2, ((2595 : Nat) : Int))), (1, (0, th)), (2, (0, (op + (-1)))), (3, (0, wt)), (4, (0, mo))] (List.forall_mem_cons.mpr ⟨rfl, List.forall_mem_cons.mpr ⟨rfl, List.forall_mem_cons.mpr ⟨rfl, List.forall_mem_cons.mpr ⟨rfl, List.forall_mem_cons.mpr ⟨rfl, fun _ h => absurd h List.not_mem_nil⟩⟩⟩⟩⟩) ?_
                      refine ih8  (th) ((op + (-1))) (wt) (mo) ((ga hh90 2595 12)) hh90 ghh90 ?_ ?_ ?_ ?_ ?_ ?_ ?_ ?_ ?_ ?_ ?_
                      · exact ww
                      · exact jj
                      · rfl
                      · omega
                      · omega
                      · exact ew.wd ww1 (by decide) (by decide) (by decide)
                      · omega
                      · omega
                      · omega
                      · rw [nT, nB, nE, show ga hh90 2595 12 = a9 + 1 by omega]
                        exact ex.step (by omega) (by unfold SX; omega)
                      · omega
                    · skip
                      refine hd_ipush (z := 1) pkX15_readExpression rfl ?_
                      refine hd_goto pkX15_readExpression rfl ?_
                      refine hd_iadd pkX15_readExpression rfl (by omega) ?_
                      refine hd_putI pkX15_readExpression rfl (g8.cell 0 rfl).1 (g8.cell 0 rfl).2.1 (fun hh91 ehh91 => ?_)
                      have ghh91 : Str t15 r15 hh91 := by rw [ehh91]; exact g8.setF rfl
                      have jj := jj.wf_12 ehh91
                      have ww := ww.wF ehh91 (by decide) (by decide)
                      have kf4 : ga hh91 2595 4 = ga hl8 2595 4 := (ga_wr ehh91 (by decide) (by decide)).trans (if_neg (by decide))
                      have kf12 : ga hh91 2595 12 = (v88 + 1) := (ga_wr ehh91 (by decide) (by decide)).trans (if_pos rfl)
                      have ww1 : Wd 2595 [] [12] hl8 hh91 := (Wd.refl _ _ _ _).wF ehh91 (by decide) (by decide)
                      have n4 : ga hh91 2595 4 = ga hl8 2595 4 := kf4
                      have nT := ga_upn ehh91 (d := 2596) (by decide)
                      have nB := ga_upn ehh91 (d := 2598) (by decide)
                      have nE := ga_upn ehh91 (d := 2599) (by decide)
                      refine hd_goto pkX15_readExpression rfl ?_
                      refine m_sub [(0, (2, ((2595 : Nat) : Int))), (1, (0, th)), (2, (0, (op + (-1)))), (3, (0, wt)), (4, (0, mo))] (List.forall_mem_cons.mpr ⟨rfl, List.forall_mem_cons.mpr ⟨rfl, List.forall_mem_cons.mpr ⟨rfl, List.forall_mem_cons.mpr ⟨rfl, List.forall_mem_cons.mpr ⟨rfl, fun _ h => absurd h List.not_mem_nil⟩⟩⟩⟩⟩) ?_
                      refine ih8  (th) ((op + (-1))) (wt) (mo) ((ga hh91 2595 12)) hh91 ghh91 ?_ ?_ ?_ ?_ ?_ ?_ ?_ ?_ ?_ ?_ ?_
                      · exact ww
                      · exact jj
                      · rfl
                      · omega
                      · omega
                      · exact ew.wd ww1 (by decide) (by decide) (by decide)
                      · omega
                      · omega
                      · omega
                      · rw [nT, nB, nE, show ga hh91 2595 12 = a9 + 1 by omega]
                        exact ex.step (by omega) (by unfold SX; omega)
                      · omega
                  · skip
                    refine hd_ipush (z := 0) pkX15_readExpression rfl ?_
                    refine hd_zret pkX15_readExpression rfl (by omega) ?_
                    subst eQ
                    refine ⟨rfl, rfl, ⟨(by show 0 ≤ (0 : Int) ∧ (0 : Int) ≤ 1; omega), ?_⟩, ww, jj, g8⟩
                    show (ga h 2595 12 ≤ ga hl8 2595 12 ∧ ga hl8 2595 12 ≤ ga h 2595 4) ∧ ((0 : Int) = 0 ∨ ∃ th, EX (ga h 2596) (ga h 2598) (ga h 2599) (ga h 2595 12) (ga hl8 2595 12) 0 0 th)
                    refine ⟨by omega, Or.inl rfl⟩
              · skip
                refine hd_iinc (z := 1) pkX15_readExpression rfl rfl (by omega) rfl ?_
                change MW _ _ _ _ _ [(1, (0, (th + 1))), (0, (2, ((2595 : Nat) : Int))), (2, (0, op)), (3, (0, wt)), (4, (0, mo))] _ _
                refine hd_iload pkX15_readExpression rfl rfl ?_
                refine hd_ipush (z := 30) pkX15_readExpression rfl ?_
                refine hd_ic_le pkX15_readExpression rfl (fun c92 => ?_) (fun c92 => ?_)
                · skip
                  refine hd_ipush (z := 1) pkX15_readExpression rfl ?_
                  refine hd_istore pkX15_readExpression rfl rfl ?_
                  change MW _ _ _ _ _ [(3, (0, 1)), (1, (0, (th + 1))), (0, (2, ((2595 : Nat) : Int))), (2, (0, op)), (4, (0, mo))] _ _
                  refine hd_goto pkX15_readExpression rfl ?_
                  refine hd_aload pkX15_readExpression rfl rfl (Int.natCast_nonneg _) ?_
                  refine hd_dup pkX15_readExpression rfl rfl ?_
                  refine hd_getI pkX15_readExpression rfl (g8.cell 0 rfl).1 (g8.cell 0 rfl).2.1 (fun v93 ev93 rv93 => ?_)
                  replace ev93 : v93 = ga hl8 2595 12 := ev93
                  have qv93 : a9 = v93 := hat.symm.trans ev93.symm
                  refine hd_iload pkX15_readExpression rfl rfl ?_
                  refine hd_if_eq pkX15_readExpression rfl (fun c94 => ?_) (fun c94 => ?_)
                  · skip
                    refine hd_ipush (z := 0) pkX15_readExpression rfl ?_
                    refine hd_iadd pkX15_readExpression rfl (by omega) ?_
                    refine hd_putI pkX15_readExpression rfl (g8.cell 0 rfl).1 (g8.cell 0 rfl).2.1 (fun hh95 ehh95 => ?_)
                    have ghh95 : Str t15 r15 hh95 := by rw [ehh95]; exact g8.setF rfl
                    have jj := jj.wf_12 ehh95
                    have ww := ww.wF ehh95 (by decide) (by decide)
                    have kf4 : ga hh95 2595 4 = ga hl8 2595 4 := (ga_wr ehh95 (by decide) (by decide)).trans (if_neg (by decide))
                    have kf12 : ga hh95 2595 12 = (v93 + 0) := (ga_wr ehh95 (by decide) (by decide)).trans (if_pos rfl)
                    have ww1 : Wd 2595 [] [12] hl8 hh95 := (Wd.refl _ _ _ _).wF ehh95 (by decide) (by decide)
                    have n4 : ga hh95 2595 4 = ga hl8 2595 4 := kf4
                    have nT := ga_upn ehh95 (d := 2596) (by decide)
                    have nB := ga_upn ehh95 (d := 2598) (by decide)
                    have nE := ga_upn ehh95 (d := 2599) (by decide)
                    refine hd_goto pkX15_readExpression rfl ?_
                    refine m_sub [(0, (2, ((2595 : Nat) : Int))), (1, (0, (th + 1))), (2, (0, op)), (3, (0, 1)), (4, (0, mo))] (List.forall_mem_cons.mpr ⟨rfl, List.forall_mem_cons.mpr ⟨rfl, List.forall_mem_cons.mpr ⟨rfl, List.forall_mem_cons.mpr ⟨rfl, List.forall_mem_cons.mpr ⟨rfl, fun _ h => absurd h List.not_mem_nil⟩⟩⟩⟩⟩) ?_
                    refine ih8  ((th + 1)) (op) (1) (mo) ((ga hh95 2595 12)) hh95 ghh95 ?_ ?_ ?_ ?_ ?_ ?_ ?_ ?_ ?_ ?_ ?_
                    · exact ww
                    · exact jj
                    · rfl
                    · omega
                    · omega
                    · exact ew.wd ww1 (by decide) (by decide) (by decide)
                    · omega
                    · omega
                    · omega
                    · rw [nT, nB, nE, show ga hh95 2595 12 = a9 + 1 by omega]
                      exact ex.step (by omega) (by unfold SX; omega)
                    · omega
                  · skip
                    refine hd_ipush (z := 1) pkX15_readExpression rfl ?_
                    refine hd_goto pkX15_readExpression rfl ?_
                    refine hd_iadd pkX15_readExpression rfl (by omega) ?_
                    refine hd_putI pkX15_readExpression rfl (g8.cell 0 rfl).1 (g8.cell 0 rfl).2.1 (fun hh96 ehh96 => ?_)
                    have ghh96 : Str t15 r15 hh96 := by rw [ehh96]; exact g8.setF rfl
                    have jj := jj.wf_12 ehh96
                    have ww := ww.wF ehh96 (by decide) (by decide)
                    have kf4 : ga hh96 2595 4 = ga hl8 2595 4 := (ga_wr ehh96 (by decide) (by decide)).trans (if_neg (by decide))
                    have kf12 : ga hh96 2595 12 = (v93 + 1) := (ga_wr ehh96 (by decide) (by decide)).trans (if_pos rfl)
                    have ww1 : Wd 2595 [] [12] hl8 hh96 := (Wd.refl _ _ _ _).wF ehh96 (by decide) (by decide)
                    have n4 : ga hh96 2595 4 = ga hl8 2595 4 := kf4
                    have nT := ga_upn ehh96 (d := 2596) (by decide)
                    have nB := ga_upn ehh96 (d := 2598) (by decide)
                    have nE := ga_upn ehh96 (d := 2599) (by decide)
                    refine hd_goto pkX15_readExpression rfl ?_
                    refine m_sub [(0, (2, ((2595 : Nat) : Int))), (1, (0, (th + 1))), (2, (0, op)), (3, (0, 1)), (4, (0, mo))] (List.forall_mem_cons.mpr ⟨rfl, List.forall_mem_cons.mpr ⟨rfl, List.forall_mem_cons.mpr ⟨rfl, List.forall_mem_cons.mpr ⟨rfl, List.forall_mem_cons.mpr ⟨rfl, fun _ h => absurd h List.not_mem_nil⟩⟩⟩⟩⟩) ?_
                    refine ih8  ((th + 1)) (op) (1) (mo) ((ga hh96 2595 12)) hh96 ghh96 ?_ ?_ ?_ ?_ ?_ ?_ ?_ ?_ ?_ ?_ ?_
                    · exact ww
                    · exact jj
                    · rfl
                    · omega
                    · omega
                    · exact ew.wd ww1 (by decide) (by decide) (by decide)
                    · omega
                    · omega
                    · omega
                    · rw [nT, nB, nE, show ga hh96 2595 12 = a9 + 1 by omega]
                      exact ex.step (by omega) (by unfold SX; omega)
                    · omega
                · skip
                  refine hd_ipush (z := 0) pkX15_readExpression rfl ?_
                  refine hd_zret pkX15_readExpression rfl (by omega) ?_
                  subst eQ
                  refine ⟨rfl, rfl, ⟨(by show 0 ≤ (0 : Int) ∧ (0 : Int) ≤ 1; omega), ?_⟩, ww, jj, g8⟩
                  show (ga h 2595 12 ≤ ga hl8 2595 12 ∧ ga hl8 2595 12 ≤ ga h 2595 4) ∧ ((0 : Int) = 0 ∨ ∃ th, EX (ga h 2596) (ga h 2598) (ga h 2599) (ga h 2595 12) (ga hl8 2595 12) 0 0 th)
                  refine ⟨by omega, Or.inl rfl⟩
            · skip
              refine hd_iinc (z := 1) pkX15_readExpression rfl rfl (by omega) rfl ?_
              change MW _ _ _ _ _ [(1, (0, (th + 1))), (0, (2, ((2595 : Nat) : Int))), (2, (0, op)), (3, (0, wt)), (4, (0, mo))] _ _
              refine hd_aload pkX15_readExpression rfl rfl (Int.natCast_nonneg _) ?_
              refine hd_aload pkX15_readExpression rfl rfl (Int.natCast_nonneg _) ?_
              refine hd_getR (n := 2596) pkX15_readExpression rfl (g8.cell 0 rfl).1 (g8.cell 0 rfl).2.1 (g8.ref 0 rfl) ?_
              refine hd_aload pkX15_readExpression rfl rfl (Int.natCast_nonneg _) ?_
              refine hd_getI pkX15_readExpression rfl (g8.cell 0 rfl).1 (g8.cell 0 rfl).2.1 (fun v97 ev97 rv97 => ?_)
              replace ev97 : v97 = ga hl8 2595 12 := ev97
              have qv97 : a9 = v97 := hat.symm.trans ev97.symm
              refine hd_callV pkX15_readExpression rfl (q := (KX15_variable, yX15_variable, 15, 2, 0)) rfl rfl rfl (As := [(2, ((2596 : Nat) : Int)), (0, v97)]) (rest := []) (c := 2595) rfl rfl (Nat.le_of_ble_eq_true rfl) (g8.cell 0 rfl).1 (g8.cell 0 rfl).2.1 (h_X15_variable_2596 jj (by omega) g8) (hd_bI (fun w99 hc100 p98 => ?_))
              obtain ⟨p98, ehc100⟩ := p98
              replace ehc100 := ehc100.symm
              subst ehc100
              refine hd_ipush (z := (-1)) pkX15_readExpression rfl ?_
              refine hd_ic_ne pkX15_readExpression rfl (fun c101 => ?_) (fun c101 => ?_)
              · skip
                refine hd_ipush (z := 1) pkX15_readExpression rfl ?_
                refine hd_goto pkX15_readExpression rfl ?_
                refine hd_istore pkX15_readExpression rfl rfl ?_
                change MW _ _ _ _ _ [(5, (0, 1)), (1, (0, (th + 1))), (0, (2, ((2595 : Nat) : Int))), (2, (0, op)), (3, (0, wt)), (4, (0, mo))] _ _
                refine hd_iload pkX15_readExpression rfl rfl ?_
                refine hd_ipush (z := 30) pkX15_readExpression rfl ?_
                refine hd_ic_gt pkX15_readExpression rfl (fun c102 => ?_) (fun c102 => ?_)
                · skip
                  refine hd_ipush (z := 0) pkX15_readExpression rfl ?_
                  refine hd_zret pkX15_readExpression rfl (by omega) ?_
                  subst eQ
                  refine ⟨rfl, rfl, ⟨(by show 0 ≤ (0 : Int) ∧ (0 : Int) ≤ 1; omega), ?_⟩, ww, jj, g8⟩
                  show (ga h 2595 12 ≤ ga hl8 2595 12 ∧ ga hl8 2595 12 ≤ ga h 2595 4) ∧ ((0 : Int) = 0 ∨ ∃ th, EX (ga h 2596) (ga h 2598) (ga h 2599) (ga h 2595 12) (ga hl8 2595 12) 0 0 th)
                  refine ⟨by omega, Or.inl rfl⟩
                · skip
                  refine hd_iload pkX15_readExpression rfl rfl ?_
                  refine hd_if_ne pkX15_readExpression rfl (fun c103 => ?_) (fun c103 => ?_)
                  · skip
                    refine hd_ipush (z := 0) pkX15_readExpression rfl ?_
                    refine hd_istore pkX15_readExpression rfl rfl ?_
                    change MW _ _ _ _ _ [(3, (0, 0)), (5, (0, 1)), (1, (0, (th + 1))), (0, (2, ((2595 : Nat) : Int))), (2, (0, op)), (4, (0, mo))] _ _
                    refine hd_goto pkX15_readExpression rfl ?_
                    refine hd_aload pkX15_readExpression rfl rfl (Int.natCast_nonneg _) ?_
                    refine hd_dup pkX15_readExpression rfl rfl ?_
                    refine hd_getI pkX15_readExpression rfl (g8.cell 0 rfl).1 (g8.cell 0 rfl).2.1 (fun v104 ev104 rv104 => ?_)
                    replace ev104 : v104 = ga hl8 2595 12 := ev104
                    have qv104 : a9 = v104 := hat.symm.trans ev104.symm
                    refine hd_iload pkX15_readExpression rfl rfl ?_
                    refine hd_if_eq pkX15_readExpression rfl (fun c105 => ?_) (fun c105 => ?_)
                    · skip
                      refine hd_ipush (z := 0) pkX15_readExpression rfl ?_
                      refine hd_iadd pkX15_readExpression rfl (by omega) ?_
                      refine hd_putI pkX15_readExpression rfl (g8.cell 0 rfl).1 (g8.cell 0 rfl).2.1 (fun hh106 ehh106 => ?_)
                      have ghh106 : Str t15 r15 hh106 := by rw [ehh106]; exact g8.setF rfl
                      have jj := jj.wf_12 ehh106
                      have ww := ww.wF ehh106 (by decide) (by decide)
                      have kf4 : ga hh106 2595 4 = ga hl8 2595 4 := (ga_wr ehh106 (by decide) (by decide)).trans (if_neg (by decide))
                      have kf12 : ga hh106 2595 12 = (v104 + 0) := (ga_wr ehh106 (by decide) (by decide)).trans (if_pos rfl)
                      have ww1 : Wd 2595 [] [12] hl8 hh106 := (Wd.refl _ _ _ _).wF ehh106 (by decide) (by decide)
                      have n4 : ga hh106 2595 4 = ga hl8 2595 4 := kf4
                      have nT := ga_upn ehh106 (d := 2596) (by decide)
                      have nB := ga_upn ehh106 (d := 2598) (by decide)
                      have nE := ga_upn ehh106 (d := 2599) (by decide)
                      refine hd_goto pkX15_readExpression rfl ?_
                      refine m_sub [(0, (2, ((2595 : Nat) : Int))), (1, (0, (th + 1))), (2, (0, op)), (3, (0, 0)), (4, (0, mo))] (List.forall_mem_cons.mpr ⟨rfl, List.forall_mem_cons.mpr ⟨rfl, List.forall_mem_cons.mpr ⟨rfl, List.forall_mem_cons.mpr ⟨rfl, List.forall_mem_cons.mpr ⟨rfl, fun _ h => absurd h List.not_mem_nil⟩⟩⟩⟩⟩) ?_
                      refine ih8  ((th + 1)) (op) (0) (mo) ((ga hh106 2595 12)) hh106 ghh106 ?_ ?_ ?_ ?_ ?_ ?_ ?_ ?_ ?_ ?_ ?_
                      · exact ww
                      · exact jj
                      · rfl
                      · omega
                      · omega
                      · exact ew.wd ww1 (by decide) (by decide) (by decide)
                      · omega
                      · omega
                      · omega
                      · rw [nT, nB, nE, show ga hh106 2595 12 = a9 + 1 by omega]
                        exact ex.step (by omega) (by unfold SX; omega)
                      · omega
                    · skip
                      refine hd_ipush (z := 1) pkX15_readExpression rfl ?_
                      refine hd_goto pkX15_readExpression rfl ?_
                      refine hd_iadd pkX15_readExpression rfl (by omega) ?_
                      refine hd_putI pkX15_readExpression rfl (g8.cell 0 rfl).1 (g8.cell 0 rfl).2.1 (fun hh107 ehh107 => ?_)
                      have ghh107 : Str t15 r15 hh107 := by rw [ehh107]; exact g8.setF rfl
                      have jj := jj.wf_12 ehh107
                      have ww := ww.wF ehh107 (by decide) (by decide)
                      have kf4 : ga hh107 2595 4 = ga hl8 2595 4 := (ga_wr ehh107 (by decide) (by decide)).trans (if_neg (by decide))
                      have kf12 : ga hh107 2595 12 = (v104 + 1) := (ga_wr ehh107 (by decide) (by decide)).trans (if_pos rfl)
                      have ww1 : Wd 2595 [] [12] hl8 hh107 := (Wd.refl _ _ _ _).wF ehh107 (by decide) (by decide)
                      have n4 : ga hh107 2595 4 = ga hl8 2595 4 := kf4
                      have nT := ga_upn ehh107 (d := 2596) (by decide)
                      have nB := ga_upn ehh107 (d := 2598) (by decide)
                      have nE := ga_upn ehh107 (d := 2599) (by decide)
                      refine hd_goto pkX15_readExpression rfl ?_
                      refine m_sub [(0, (2, ((2595 : Nat) : Int))), (1, (0, (th + 1))), (2, (0, op)), (3, (0, 0)), (4, (0, mo))] (List.forall_mem_cons.mpr ⟨rfl, List.forall_mem_cons.mpr ⟨rfl, List.forall_mem_cons.mpr ⟨rfl, List.forall_mem_cons.mpr ⟨rfl, List.forall_mem_cons.mpr ⟨rfl, fun _ h => absurd h List.not_mem_nil⟩⟩⟩⟩⟩) ?_
                      refine ih8  ((th + 1)) (op) (0) (mo) ((ga hh107 2595 12)) hh107 ghh107 ?_ ?_ ?_ ?_ ?_ ?_ ?_ ?_ ?_ ?_ ?_
                      · exact ww
                      · exact jj
                      · rfl
                      · omega
                      · omega
                      · exact ew.wd ww1 (by decide) (by decide) (by decide)
                      · omega
                      · omega
                      · omega
                      · rw [nT, nB, nE, show ga hh107 2595 12 = a9 + 1 by omega]
                        exact ex.step (by omega) (by unfold SX; omega)
                      · omega
                  · skip
                    refine hd_ipush (z := 0) pkX15_readExpression rfl ?_
                    refine hd_zret pkX15_readExpression rfl (by omega) ?_
                    subst eQ
                    refine ⟨rfl, rfl, ⟨(by show 0 ≤ (0 : Int) ∧ (0 : Int) ≤ 1; omega), ?_⟩, ww, jj, g8⟩
                    show (ga h 2595 12 ≤ ga hl8 2595 12 ∧ ga hl8 2595 12 ≤ ga h 2595 4) ∧ ((0 : Int) = 0 ∨ ∃ th, EX (ga h 2596) (ga h 2598) (ga h 2599) (ga h 2595 12) (ga hl8 2595 12) 0 0 th)
                    refine ⟨by omega, Or.inl rfl⟩
              · skip
                refine hd_aload pkX15_readExpression rfl rfl (Int.natCast_nonneg _) ?_
                refine hd_aload pkX15_readExpression rfl rfl (Int.natCast_nonneg _) ?_
                refine hd_getI pkX15_readExpression rfl (g8.cell 0 rfl).1 (g8.cell 0 rfl).2.1 (fun v108 ev108 rv108 => ?_)
                replace ev108 : v108 = ga hl8 2595 12 := ev108
                have qv108 : a9 = v108 := hat.symm.trans ev108.symm
                refine hd_callV pkX15_readExpression rfl (q := (KX15_sortOf, yX15_sortOf, 15, 1, 0)) rfl rfl rfl (As := [(0, v108)]) (rest := []) (c := 2595) rfl rfl (Nat.le_of_ble_eq_true rfl) (g8.cell 0 rfl).1 (g8.cell 0 rfl).2.1 (h_X15_sortOf jj (by omega) (by omega) g8) (hd_bI (fun w110 hc111 p109 => ?_))
                obtain ⟨p109, ehc111⟩ := p109
                replace ehc111 := ehc111.symm
                subst ehc111
                refine hd_ipush (z := 2) pkX15_readExpression rfl ?_
                refine hd_ic_ne pkX15_readExpression rfl (fun c112 => ?_) (fun c112 => ?_)
                · skip
                  refine hd_ipush (z := 0) pkX15_readExpression rfl ?_
                  refine hd_istore pkX15_readExpression rfl rfl ?_
                  change MW _ _ _ _ _ [(5, (0, 0)), (1, (0, (th + 1))), (0, (2, ((2595 : Nat) : Int))), (2, (0, op)), (3, (0, wt)), (4, (0, mo))] _ _
                  refine hd_iload pkX15_readExpression rfl rfl ?_
                  refine hd_ipush (z := 30) pkX15_readExpression rfl ?_
                  refine hd_ic_gt pkX15_readExpression rfl (fun c113 => ?_) (fun c113 => ?_)
                  · skip
                    refine hd_ipush (z := 0) pkX15_readExpression rfl ?_
                    refine hd_zret pkX15_readExpression rfl (by omega) ?_
                    subst eQ
                    refine ⟨rfl, rfl, ⟨(by show 0 ≤ (0 : Int) ∧ (0 : Int) ≤ 1; omega), ?_⟩, ww, jj, g8⟩
                    show (ga h 2595 12 ≤ ga hl8 2595 12 ∧ ga hl8 2595 12 ≤ ga h 2595 4) ∧ ((0 : Int) = 0 ∨ ∃ th, EX (ga h 2596) (ga h 2598) (ga h 2599) (ga h 2595 12) (ga hl8 2595 12) 0 0 th)
                    refine ⟨by omega, Or.inl rfl⟩
                  · skip
                    refine hd_iload pkX15_readExpression rfl rfl ?_
                    refine hd_if_ne pkX15_readExpression rfl (fun c114 => ?_) (fun c114 => ?_)
                    · skip
                      refine hd_ipush (z := 0) pkX15_readExpression rfl ?_
                      refine hd_istore pkX15_readExpression rfl rfl ?_
                      change MW _ _ _ _ _ [(3, (0, 0)), (5, (0, 0)), (1, (0, (th + 1))), (0, (2, ((2595 : Nat) : Int))), (2, (0, op)), (4, (0, mo))] _ _
                      refine hd_goto pkX15_readExpression rfl ?_
                      refine hd_aload pkX15_readExpression rfl rfl (Int.natCast_nonneg _) ?_
                      refine hd_dup pkX15_readExpression rfl rfl ?_
                      refine hd_getI pkX15_readExpression rfl (g8.cell 0 rfl).1 (g8.cell 0 rfl).2.1 (fun v115 ev115 rv115 => ?_)
                      replace ev115 : v115 = ga hl8 2595 12 := ev115
                      have qv115 : a9 = v115 := hat.symm.trans ev115.symm
                      refine hd_iload pkX15_readExpression rfl rfl ?_
                      refine hd_if_eq pkX15_readExpression rfl (fun c116 => ?_) (fun c116 => ?_)
                      · skip
                        refine hd_ipush (z := 0) pkX15_readExpression rfl ?_
                        refine hd_iadd pkX15_readExpression rfl (by omega) ?_
                        refine hd_putI pkX15_readExpression rfl (g8.cell 0 rfl).1 (g8.cell 0 rfl).2.1 (fun hh117 ehh117 => ?_)
                        have ghh117 : Str t15 r15 hh117 := by rw [ehh117]; exact g8.setF rfl
                        have jj := jj.wf_12 ehh117
                        have ww := ww.wF ehh117 (by decide) (by decide)
                        have kf4 : ga hh117 2595 4 = ga hl8 2595 4 := (ga_wr ehh117 (by decide) (by decide)).trans (if_neg (by decide))
                        have kf12 : ga hh117 2595 12 = (v115 + 0) := (ga_wr ehh117 (by decide) (by decide)).trans (if_pos rfl)
                        have ww1 : Wd 2595 [] [12] hl8 hh117 := (Wd.refl _ _ _ _).wF ehh117 (by decide) (by decide)
                        have n4 : ga hh117 2595 4 = ga hl8 2595 4 := kf4
                        have nT := ga_upn ehh117 (d := 2596) (by decide)
                        have nB := ga_upn ehh117 (d := 2598) (by decide)
                        have nE := ga_upn ehh117 (d := 2599) (by decide)
                        refine hd_goto pkX15_readExpression rfl ?_
                        refine m_sub [(0, (2, ((2595 : Nat) : Int))), (1, (0, (th + 1))), (2, (0, op)), (3, (0, 0)), (4, (0, mo))] (List.forall_mem_cons.mpr ⟨rfl, List.forall_mem_cons.mpr ⟨rfl, List.forall_mem_cons.mpr ⟨rfl, List.forall_mem_cons.mpr ⟨rfl, List.forall_mem_cons.mpr ⟨rfl, fun _ h => absurd h List.not_mem_nil⟩⟩⟩⟩⟩) ?_
                        refine ih8  ((th + 1)) (op) (0) (mo) ((ga hh117 2595 12)) hh117 ghh117 ?_ ?_ ?_ ?_ ?_ ?_ ?_ ?_ ?_ ?_ ?_
                        · exact ww
                        · exact jj
                        · rfl
                        · omega
                        · omega
                        · exact ew.wd ww1 (by decide) (by decide) (by decide)
                        · omega
                        · omega
                        · omega
                        · rw [nT, nB, nE, show ga hh117 2595 12 = a9 + 1 by omega]
                          exact ex.step (by omega) (by unfold SX; omega)
                        · omega
                      · skip
                        refine hd_ipush (z := 1) pkX15_readExpression rfl ?_
                        refine hd_goto pkX15_readExpression rfl ?_
                        refine hd_iadd pkX15_readExpression rfl (by omega) ?_
                        refine hd_putI pkX15_readExpression rfl (g8.cell 0 rfl).1 (g8.cell 0 rfl).2.1 (fun hh118 ehh118 => ?_)
                        have ghh118 : Str t15 r15 hh118 := by rw [ehh118]; exact g8.setF rfl
                        have jj := jj.wf_12 ehh118
                        have ww := ww.wF ehh118 (by decide) (by decide)
                        have kf4 : ga hh118 2595 4 = ga hl8 2595 4 := (ga_wr ehh118 (by decide) (by decide)).trans (if_neg (by decide))
                        have kf12 : ga hh118 2595 12 = (v115 + 1) := (ga_wr ehh118 (by decide) (by decide)).trans (if_pos rfl)
                        have ww1 : Wd 2595 [] [12] hl8 hh118 := (Wd.refl _ _ _ _).wF ehh118 (by decide) (by decide)
                        have n4 : ga hh118 2595 4 = ga hl8 2595 4 := kf4
                        have nT := ga_upn ehh118 (d := 2596) (by decide)
                        have nB := ga_upn ehh118 (d := 2598) (by decide)
                        have nE := ga_upn ehh118 (d := 2599) (by decide)
                        refine hd_goto pkX15_readExpression rfl ?_
                        refine m_sub [(0, (2, ((2595 : Nat) : Int))), (1, (0, (th + 1))), (2, (0, op)), (3, (0, 0)), (4, (0, mo))] (List.forall_mem_cons.mpr ⟨rfl, List.forall_mem_cons.mpr ⟨rfl, List.forall_mem_cons.mpr ⟨rfl, List.forall_mem_cons.mpr ⟨rfl, List.forall_mem_cons.mpr ⟨rfl, fun _ h => absurd h List.not_mem_nil⟩⟩⟩⟩⟩) ?_
                        refine ih8  ((th + 1)) (op) (0) (mo) ((ga hh118 2595 12)) hh118 ghh118 ?_ ?_ ?_ ?_ ?_ ?_ ?_ ?_ ?_ ?_ ?_
                        · exact ww
                        · exact jj
                        · rfl
                        · omega
                        · omega
                        · exact ew.wd ww1 (by decide) (by decide) (by decide)
                        · omega
                        · omega
                        · omega
                        · rw [nT, nB, nE, show ga hh118 2595 12 = a9 + 1 by omega]
                          exact ex.step (by omega) (by unfold SX; omega)
                        · omega
                    · skip
                      refine hd_ipush (z := 0) pkX15_readExpression rfl ?_
                      refine hd_zret pkX15_readExpression rfl (by omega) ?_
                      subst eQ
                      refine ⟨rfl, rfl, ⟨(by show 0 ≤ (0 : Int) ∧ (0 : Int) ≤ 1; omega), ?_⟩, ww, jj, g8⟩
                      show (ga h 2595 12 ≤ ga hl8 2595 12 ∧ ga hl8 2595 12 ≤ ga h 2595 4) ∧ ((0 : Int) = 0 ∨ ∃ th, EX (ga h 2596) (ga h 2598) (ga h 2599) (ga h 2595 12) (ga hl8 2595 12) 0 0 th)
                      refine ⟨by omega, Or.inl rfl⟩
                · skip
                  refine hd_aload pkX15_readExpression rfl rfl (Int.natCast_nonneg _) ?_
                  refine hd_aload pkX15_readExpression rfl rfl (Int.natCast_nonneg _) ?_
                  refine hd_getI pkX15_readExpression rfl (g8.cell 0 rfl).1 (g8.cell 0 rfl).2.1 (fun v119 ev119 rv119 => ?_)
                  replace ev119 : v119 = ga hl8 2595 12 := ev119
                  have qv119 : a9 = v119 := hat.symm.trans ev119.symm
                  refine hd_callV pkX15_readExpression rfl (q := (KX15_length, yX15_length, 15, 1, 0)) rfl rfl rfl (As := [(0, v119)]) (rest := []) (c := 2595) rfl rfl (Nat.le_of_ble_eq_true rfl) (g8.cell 0 rfl).1 (g8.cell 0 rfl).2.1 (h_X15_length jj (by omega) g8) (hd_bI (fun w121 hc122 p120 => ?_))
                  obtain ⟨p120, ehc122⟩ := p120
                  replace ehc122 := ehc122.symm
                  subst ehc122
                  refine hd_ipush (z := 5) pkX15_readExpression rfl ?_
                  refine hd_ic_ge pkX15_readExpression rfl (fun c123 => ?_) (fun c123 => ?_)
                  · skip
                    refine hd_ipush (z := 0) pkX15_readExpression rfl ?_
                    refine hd_istore pkX15_readExpression rfl rfl ?_
                    change MW _ _ _ _ _ [(5, (0, 0)), (1, (0, (th + 1))), (0, (2, ((2595 : Nat) : Int))), (2, (0, op)), (3, (0, wt)), (4, (0, mo))] _ _
                    refine hd_iload pkX15_readExpression rfl rfl ?_
                    refine hd_ipush (z := 30) pkX15_readExpression rfl ?_
                    refine hd_ic_gt pkX15_readExpression rfl (fun c124 => ?_) (fun c124 => ?_)
                    · skip
                      refine hd_ipush (z := 0) pkX15_readExpression rfl ?_
                      refine hd_zret pkX15_readExpression rfl (by omega) ?_
                      subst eQ
                      refine ⟨rfl, rfl, ⟨(by show 0 ≤ (0 : Int) ∧ (0 : Int) ≤ 1; omega), ?_⟩, ww, jj, g8⟩
                      show (ga h 2595 12 ≤ ga hl8 2595 12 ∧ ga hl8 2595 12 ≤ ga h 2595 4) ∧ ((0 : Int) = 0 ∨ ∃ th, EX (ga h 2596) (ga h 2598) (ga h 2599) (ga h 2595 12) (ga hl8 2595 12) 0 0 th)
                      refine ⟨by omega, Or.inl rfl⟩
                    · skip
                      refine hd_iload pkX15_readExpression rfl rfl ?_
                      refine hd_if_ne pkX15_readExpression rfl (fun c125 => ?_) (fun c125 => ?_)
                      · skip
                        refine hd_ipush (z := 0) pkX15_readExpression rfl ?_
                        refine hd_istore pkX15_readExpression rfl rfl ?_
                        change MW _ _ _ _ _ [(3, (0, 0)), (5, (0, 0)), (1, (0, (th + 1))), (0, (2, ((2595 : Nat) : Int))), (2, (0, op)), (4, (0, mo))] _ _
                        refine hd_goto pkX15_readExpression rfl ?_
                        refine hd_aload pkX15_readExpression rfl rfl (Int.natCast_nonneg _) ?_
                        refine hd_dup pkX15_readExpression rfl rfl ?_
                        refine hd_getI pkX15_readExpression rfl (g8.cell 0 rfl).1 (g8.cell 0 rfl).2.1 (fun v126 ev126 rv126 => ?_)
                        replace ev126 : v126 = ga hl8 2595 12 := ev126
                        have qv126 : a9 = v126 := hat.symm.trans ev126.symm
                        refine hd_iload pkX15_readExpression rfl rfl ?_
                        refine hd_if_eq pkX15_readExpression rfl (fun c127 => ?_) (fun c127 => ?_)
                        · skip
                          refine hd_ipush (z := 0) pkX15_readExpression rfl ?_
                          refine hd_iadd pkX15_readExpression rfl (by omega) ?_
                          refine hd_putI pkX15_readExpression rfl (g8.cell 0 rfl).1 (g8.cell 0 rfl).2.1 (fun hh128 ehh128 => ?_)
                          have ghh128 : Str t15 r15 hh128 := by rw [ehh128]; exact g8.setF rfl
                          have jj := jj.wf_12 ehh128
                          have ww := ww.wF ehh128 (by decide) (by decide)
                          have kf4 : ga hh128 2595 4 = ga hl8 2595 4 := (ga_wr ehh128 (by decide) (by decide)).trans (if_neg (by decide))
                          have kf12 : ga hh128 2595 12 = (v126 + 0) := (ga_wr ehh128 (by decide) (by decide)).trans (if_pos rfl)
                          have ww1 : Wd 2595 [] [12] hl8 hh128 := (Wd.refl _ _ _ _).wF ehh128 (by decide) (by decide)
                          have n4 : ga hh128 2595 4 = ga hl8 2595 4 := kf4
                          have nT := ga_upn ehh128 (d := 2596) (by decide)
                          have nB := ga_upn ehh128 (d := 2598) (by decide)
                          have nE := ga_upn ehh128 (d := 2599) (by decide)
                          refine hd_goto pkX15_readExpression rfl ?_
                          refine m_sub [(0, (2, ((2595 : Nat) : Int))), (1, (0, (th + 1))), (2, (0, op)), (3, (0, 0)), (4, (0, mo))] (List.forall_mem_cons.mpr ⟨rfl, List.forall_mem_cons.mpr ⟨rfl, List.forall_mem_cons.mpr ⟨rfl, List.forall_mem_cons.mpr ⟨rfl, List.forall_mem_cons.mpr ⟨rfl, fun _ h => absurd h List.not_mem_nil⟩⟩⟩⟩⟩) ?_
                          refine ih8  ((th + 1)) (op) (0) (mo) ((ga hh128 2595 12)) hh128 ghh128 ?_ ?_ ?_ ?_ ?_ ?_ ?_ ?_ ?_ ?_ ?_
                          · exact ww
                          · exact jj
                          · rfl
                          · omega
                          · omega
                          · exact ew.wd ww1 (by decide) (by decide) (by decide)
                          · omega
                          · omega
                          · omega
                          · rw [nT, nB, nE, show ga hh128 2595 12 = a9 + 1 by omega]
                            exact ex.step (by omega) (by unfold SX; omega)
                          · omega
                        · skip
                          refine hd_ipush (z := 1) pkX15_readExpression rfl ?_
                          refine hd_goto pkX15_readExpression rfl ?_
                          refine hd_iadd pkX15_readExpression rfl (by omega) ?_
                          refine hd_putI pkX15_readExpression rfl (g8.cell 0 rfl).1 (g8.cell 0 rfl).2.1 (fun hh129 ehh129 => ?_)
                          have ghh129 : Str t15 r15 hh129 := by rw [ehh129]; exact g8.setF rfl
                          have jj := jj.wf_12 ehh129
                          have ww := ww.wF ehh129 (by decide) (by decide)
                          have kf4 : ga hh129 2595 4 = ga hl8 2595 4 := (ga_wr ehh129 (by decide) (by decide)).trans (if_neg (by decide))
                          have kf12 : ga hh129 2595 12 = (v126 + 1) := (ga_wr ehh129 (by decide) (by decide)).trans (if_pos rfl)
                          have ww1 : Wd 2595 [] [12] hl8 hh129 := (Wd.refl _ _ _ _).wF ehh129 (by decide) (by decide)
                          have n4 : ga hh129 2595 4 = ga hl8 2595 4 := kf4
                          have nT := ga_upn ehh129 (d := 2596) (by decide)
                          have nB := ga_upn ehh129 (d := 2598) (by decide)
                          have nE := ga_upn ehh129 (d := 2599) (by decide)
                          refine hd_goto pkX15_readExpression rfl ?_
                          refine m_sub [(0, (2, ((2595 : Nat) : Int))), (1, (0, (th + 1))), (2, (0, op)), (3, (0, 0)), (4, (0, mo))] (List.forall_mem_cons.mpr ⟨rfl, List.forall_mem_cons.mpr ⟨rfl, List.forall_mem_cons.mpr ⟨rfl, List.forall_mem_cons.mpr ⟨rfl, List.forall_mem_cons.mpr ⟨rfl, fun _ h => absurd h List.not_mem_nil⟩⟩⟩⟩⟩) ?_
                          refine ih8  ((th + 1)) (op) (0) (mo) ((ga hh129 2595 12)) hh129 ghh129 ?_ ?_ ?_ ?_ ?_ ?_ ?_ ?_ ?_ ?_ ?_
                          · exact ww
                          · exact jj
                          · rfl
                          · omega
                          · omega
                          · exact ew.wd ww1 (by decide) (by decide) (by decide)
                          · omega
                          · omega
                          · omega
                          · rw [nT, nB, nE, show ga hh129 2595 12 = a9 + 1 by omega]
                            exact ex.step (by omega) (by unfold SX; omega)
                          · omega
                      · skip
                        refine hd_ipush (z := 0) pkX15_readExpression rfl ?_
                        refine hd_zret pkX15_readExpression rfl (by omega) ?_
                        subst eQ
                        refine ⟨rfl, rfl, ⟨(by show 0 ≤ (0 : Int) ∧ (0 : Int) ≤ 1; omega), ?_⟩, ww, jj, g8⟩
                        show (ga h 2595 12 ≤ ga hl8 2595 12 ∧ ga hl8 2595 12 ≤ ga h 2595 4) ∧ ((0 : Int) = 0 ∨ ∃ th, EX (ga h 2596) (ga h 2598) (ga h 2599) (ga h 2595 12) (ga hl8 2595 12) 0 0 th)
                        refine ⟨by omega, Or.inl rfl⟩
                  · skip
                    refine hd_ipush (z := 1) pkX15_readExpression rfl ?_
                    refine hd_goto pkX15_readExpression rfl ?_
                    refine hd_istore pkX15_readExpression rfl rfl ?_
                    change MW _ _ _ _ _ [(5, (0, 1)), (1, (0, (th + 1))), (0, (2, ((2595 : Nat) : Int))), (2, (0, op)), (3, (0, wt)), (4, (0, mo))] _ _
                    refine hd_iload pkX15_readExpression rfl rfl ?_
                    refine hd_ipush (z := 30) pkX15_readExpression rfl ?_
                    refine hd_ic_gt pkX15_readExpression rfl (fun c130 => ?_) (fun c130 => ?_)
                    · skip
                      refine hd_ipush (z := 0) pkX15_readExpression rfl ?_
                      refine hd_zret pkX15_readExpression rfl (by omega) ?_
                      subst eQ
                      refine ⟨rfl, rfl, ⟨(by show 0 ≤ (0 : Int) ∧ (0 : Int) ≤ 1; omega), ?_⟩, ww, jj, g8⟩
                      show (ga h 2595 12 ≤ ga hl8 2595 12 ∧ ga hl8 2595 12 ≤ ga h 2595 4) ∧ ((0 : Int) = 0 ∨ ∃ th, EX (ga h 2596) (ga h 2598) (ga h 2599) (ga h 2595 12) (ga hl8 2595 12) 0 0 th)
                      refine ⟨by omega, Or.inl rfl⟩
                    · skip
                      refine hd_iload pkX15_readExpression rfl rfl ?_
                      refine hd_if_ne pkX15_readExpression rfl (fun c131 => ?_) (fun c131 => ?_)
                      · skip
                        refine hd_ipush (z := 0) pkX15_readExpression rfl ?_
                        refine hd_istore pkX15_readExpression rfl rfl ?_
                        change MW _ _ _ _ _ [(3, (0, 0)), (5, (0, 1)), (1, (0, (th + 1))), (0, (2, ((2595 : Nat) : Int))), (2, (0, op)), (4, (0, mo))] _ _
                        refine hd_goto pkX15_readExpression rfl ?_
                        refine hd_aload pkX15_readExpression rfl rfl (Int.natCast_nonneg _) ?_
                        refine hd_dup pkX15_readExpression rfl rfl ?_
                        refine hd_getI pkX15_readExpression rfl (g8.cell 0 rfl).1 (g8.cell 0 rfl).2.1 (fun v132 ev132 rv132 => ?_)
                        replace ev132 : v132 = ga hl8 2595 12 := ev132
                        have qv132 : a9 = v132 := hat.symm.trans ev132.symm
                        refine hd_iload pkX15_readExpression rfl rfl ?_
                        refine hd_if_eq pkX15_readExpression rfl (fun c133 => ?_) (fun c133 => ?_)
                        · skip
                          refine hd_ipush (z := 0) pkX15_readExpression rfl ?_
                          refine hd_iadd pkX15_readExpression rfl (by omega) ?_
                          refine hd_putI pkX15_readExpression rfl (g8.cell 0 rfl).1 (g8.cell 0 rfl).2.1 (fun hh134 ehh134 => ?_)
                          have ghh134 : Str t15 r15 hh134 := by rw [ehh134]; exact g8.setF rfl
                          have jj := jj.wf_12 ehh134
                          have ww := ww.wF ehh134 (by decide) (by decide)
                          have kf4 : ga hh134 2595 4 = ga hl8 2595 4 := (ga_wr ehh134 (by decide) (by decide)).trans (if_neg (by decide))
                          have kf12 : ga hh134 2595 12 = (v132 + 0) := (ga_wr ehh134 (by decide) (by decide)).trans (if_pos rfl)
                          have ww1 : Wd 2595 [] [12] hl8 hh134 := (Wd.refl _ _ _ _).wF ehh134 (by decide) (by decide)
                          have n4 : ga hh134 2595 4 = ga hl8 2595 4 := kf4
                          have nT := ga_upn ehh134 (d := 2596) (by decide)
                          have nB := ga_upn ehh134 (d := 2598) (by decide)
                          have nE := ga_upn ehh134 (d := 2599) (by decide)
                          refine hd_goto pkX15_readExpression rfl ?_
                          refine m_sub [(0, (2, ((2595 : Nat) : Int))), (1, (0, (th + 1))), (2, (0, op)), (3, (0, 0)), (4, (0, mo))] (List.forall_mem_cons.mpr ⟨rfl, List.forall_mem_cons.mpr ⟨rfl, List.forall_mem_cons.mpr ⟨rfl, List.forall_mem_cons.mpr ⟨rfl, List.forall_mem_cons.mpr ⟨rfl, fun _ h => absurd h List.not_mem_nil⟩⟩⟩⟩⟩) ?_
                          refine ih8  ((th + 1)) (op) (0) (mo) ((ga hh134 2595 12)) hh134 ghh134 ?_ ?_ ?_ ?_ ?_ ?_ ?_ ?_ ?_ ?_ ?_
                          · exact ww
                          · exact jj
                          · rfl
                          · omega
                          · omega
                          · exact ew.wd ww1 (by decide) (by decide) (by decide)
                          · omega
                          · omega
                          · omega
                          · rw [nT, nB, nE, show ga hh134 2595 12 = a9 + 1 by omega]
                            exact ex.step (by omega) (by unfold SX; omega)
                          · omega
                        · skip
                          refine hd_ipush (z := 1) pkX15_readExpression rfl ?_
                          refine hd_goto pkX15_readExpression rfl ?_
                          refine hd_iadd pkX15_readExpression rfl (by omega) ?_
                          refine hd_putI pkX15_readExpression rfl (g8.cell 0 rfl).1 (g8.cell 0 rfl).2.1 (fun hh135 ehh135 => ?_)
                          have ghh135 : Str t15 r15 hh135 := by rw [ehh135]; exact g8.setF rfl
                          have jj := jj.wf_12 ehh135
                          have ww := ww.wF ehh135 (by decide) (by decide)
                          have kf4 : ga hh135 2595 4 = ga hl8 2595 4 := (ga_wr ehh135 (by decide) (by decide)).trans (if_neg (by decide))
                          have kf12 : ga hh135 2595 12 = (v132 + 1) := (ga_wr ehh135 (by decide) (by decide)).trans (if_pos rfl)
                          have ww1 : Wd 2595 [] [12] hl8 hh135 := (Wd.refl _ _ _ _).wF ehh135 (by decide) (by decide)
                          have n4 : ga hh135 2595 4 = ga hl8 2595 4 := kf4
                          have nT := ga_upn ehh135 (d := 2596) (by decide)
                          have nB := ga_upn ehh135 (d := 2598) (by decide)
                          have nE := ga_upn ehh135 (d := 2599) (by decide)
                          refine hd_goto pkX15_readExpression rfl ?_
                          refine m_sub [(0, (2, ((2595 : Nat) : Int))), (1, (0, (th + 1))), (2, (0, op)), (3, (0, 0)), (4, (0, mo))] (List.forall_mem_cons.mpr ⟨rfl, List.forall_mem_cons.mpr ⟨rfl, List.forall_mem_cons.mpr ⟨rfl, List.forall_mem_cons.mpr ⟨rfl, List.forall_mem_cons.mpr ⟨rfl, fun _ h => absurd h List.not_mem_nil⟩⟩⟩⟩⟩) ?_
                          refine ih8  ((th + 1)) (op) (0) (mo) ((ga hh135 2595 12)) hh135 ghh135 ?_ ?_ ?_ ?_ ?_ ?_ ?_ ?_ ?_ ?_ ?_
                          · exact ww
                          · exact jj
                          · rfl
                          · omega
                          · omega
                          · exact ew.wd ww1 (by decide) (by decide) (by decide)
                          · omega
                          · omega
                          · omega
                          · rw [nT, nB, nE, show ga hh135 2595 12 = a9 + 1 by omega]
                            exact ex.step (by omega) (by unfold SX; omega)
                          · omega
                      · skip
                        refine hd_ipush (z := 0) pkX15_readExpression rfl ?_
                        refine hd_zret pkX15_readExpression rfl (by omega) ?_
                        subst eQ
                        refine ⟨rfl, rfl, ⟨(by show 0 ≤ (0 : Int) ∧ (0 : Int) ≤ 1; omega), ?_⟩, ww, jj, g8⟩
                        show (ga h 2595 12 ≤ ga hl8 2595 12 ∧ ga hl8 2595 12 ≤ ga h 2595 4) ∧ ((0 : Int) = 0 ∨ ∃ th, EX (ga h 2596) (ga h 2598) (ga h 2599) (ga h 2595 12) (ga hl8 2595 12) 0 0 th)
                        refine ⟨by omega, Or.inl rfl⟩
          · skip
            refine hd_iload pkX15_readExpression rfl rfl ?_
            refine hd_ipush (z := 10) pkX15_readExpression rfl ?_
            refine hd_ic_ne pkX15_readExpression rfl (fun c136 => ?_) (fun c136 => ?_)
            · skip
              refine hd_iinc (z := 1) pkX15_readExpression rfl rfl (by omega) rfl ?_
              change MW _ _ _ _ _ [(2, (0, (op + 1))), (0, (2, ((2595 : Nat) : Int))), (1, (0, th)), (3, (0, wt)), (4, (0, mo))] _ _
              refine hd_goto pkX15_readExpression rfl ?_
              refine hd_aload pkX15_readExpression rfl rfl (Int.natCast_nonneg _) ?_
              refine hd_dup pkX15_readExpression rfl rfl ?_
              refine hd_getI pkX15_readExpression rfl (g8.cell 0 rfl).1 (g8.cell 0 rfl).2.1 (fun v137 ev137 rv137 => ?_)
              replace ev137 : v137 = ga hl8 2595 12 := ev137
              have qv137 : a9 = v137 := hat.symm.trans ev137.symm
              refine hd_iload pkX15_readExpression rfl rfl ?_
              refine hd_if_eq pkX15_readExpression rfl (fun c138 => ?_) (fun c138 => ?_)
              · skip
                refine hd_ipush (z := 0) pkX15_readExpression rfl ?_
                refine hd_iadd pkX15_readExpression rfl (by omega) ?_
                refine hd_putI pkX15_readExpression rfl (g8.cell 0 rfl).1 (g8.cell 0 rfl).2.1 (fun hh139 ehh139 => ?_)
                have ghh139 : Str t15 r15 hh139 := by rw [ehh139]; exact g8.setF rfl
                have jj := jj.wf_12 ehh139
                have ww := ww.wF ehh139 (by decide) (by decide)
                have kf4 : ga hh139 2595 4 = ga hl8 2595 4 := (ga_wr ehh139 (by decide) (by decide)).trans (if_neg (by decide))
                have kf12 : ga hh139 2595 12 = (v137 + 0) := (ga_wr ehh139 (by decide) (by decide)).trans (if_pos rfl)
                have ww1 : Wd 2595 [] [12] hl8 hh139 := (Wd.refl _ _ _ _).wF ehh139 (by decide) (by decide)
                have n4 : ga hh139 2595 4 = ga hl8 2595 4 := kf4
                have nT := ga_upn ehh139 (d := 2596) (by decide)
                have nB := ga_upn ehh139 (d := 2598) (by decide)
                have nE := ga_upn ehh139 (d := 2599) (by decide)
                refine hd_goto pkX15_readExpression rfl ?_
                refine m_sub [(0, (2, ((2595 : Nat) : Int))), (1, (0, th)), (2, (0, (op + 1))), (3, (0, wt)), (4, (0, mo))] (List.forall_mem_cons.mpr ⟨rfl, List.forall_mem_cons.mpr ⟨rfl, List.forall_mem_cons.mpr ⟨rfl, List.forall_mem_cons.mpr ⟨rfl, List.forall_mem_cons.mpr ⟨rfl, fun _ h => absurd h List.not_mem_nil⟩⟩⟩⟩⟩) ?_
                refine ih8  (th) ((op + 1)) (wt) (mo) ((ga hh139 2595 12)) hh139 ghh139 ?_ ?_ ?_ ?_ ?_ ?_ ?_ ?_ ?_ ?_ ?_
                · exact ww
                · exact jj
                · rfl
                · omega
                · omega
                · exact ew.wd ww1 (by decide) (by decide) (by decide)
                · omega
                · omega
                · omega
                · rw [nT, nB, nE, show ga hh139 2595 12 = a9 + 1 by omega]
                  exact ex.step (by omega) (by unfold SX; omega)
                · omega
              · skip
                refine hd_ipush (z := 1) pkX15_readExpression rfl ?_
                refine hd_goto pkX15_readExpression rfl ?_
                refine hd_iadd pkX15_readExpression rfl (by omega) ?_
                refine hd_putI pkX15_readExpression rfl (g8.cell 0 rfl).1 (g8.cell 0 rfl).2.1 (fun hh140 ehh140 => ?_)
                have ghh140 : Str t15 r15 hh140 := by rw [ehh140]; exact g8.setF rfl
                have jj := jj.wf_12 ehh140
                have ww := ww.wF ehh140 (by decide) (by decide)
                have kf4 : ga hh140 2595 4 = ga hl8 2595 4 := (ga_wr ehh140 (by decide) (by decide)).trans (if_neg (by decide))
                have kf12 : ga hh140 2595 12 = (v137 + 1) := (ga_wr ehh140 (by decide) (by decide)).trans (if_pos rfl)
                have ww1 : Wd 2595 [] [12] hl8 hh140 := (Wd.refl _ _ _ _).wF ehh140 (by decide) (by decide)
                have n4 : ga hh140 2595 4 = ga hl8 2595 4 := kf4
                have nT := ga_upn ehh140 (d := 2596) (by decide)
                have nB := ga_upn ehh140 (d := 2598) (by decide)
                have nE := ga_upn ehh140 (d := 2599) (by decide)
                refine hd_goto pkX15_readExpression rfl ?_
                refine m_sub [(0, (2, ((2595 : Nat) : Int))), (1, (0, th)), (2, (0, (op + 1))), (3, (0, wt)), (4, (0, mo))] (List.forall_mem_cons.mpr ⟨rfl, List.forall_mem_cons.mpr ⟨rfl, List.forall_mem_cons.mpr ⟨rfl, List.forall_mem_cons.mpr ⟨rfl, List.forall_mem_cons.mpr ⟨rfl, fun _ h => absurd h List.not_mem_nil⟩⟩⟩⟩⟩) ?_
                refine ih8  (th) ((op + 1)) (wt) (mo) ((ga hh140 2595 12)) hh140 ghh140 ?_ ?_ ?_ ?_ ?_ ?_ ?_ ?_ ?_ ?_ ?_
                · exact ww
                · exact jj
                · rfl
                · omega
                · omega
                · exact ew.wd ww1 (by decide) (by decide) (by decide)
                · omega
                · omega
                · omega
                · rw [nT, nB, nE, show ga hh140 2595 12 = a9 + 1 by omega]
                  exact ex.step (by omega) (by unfold SX; omega)
                · omega
            · skip
              refine hd_ipush (z := 0) pkX15_readExpression rfl ?_
              refine hd_zret pkX15_readExpression rfl (by omega) ?_
              subst eQ
              refine ⟨rfl, rfl, ⟨(by show 0 ≤ (0 : Int) ∧ (0 : Int) ≤ 1; omega), ?_⟩, ww, jj, g8⟩
              show (ga h 2595 12 ≤ ga hl8 2595 12 ∧ ga hl8 2595 12 ≤ ga h 2595 4) ∧ ((0 : Int) = 0 ∨ ∃ th, EX (ga h 2596) (ga h 2598) (ga h 2599) (ga h 2595 12) (ga hl8 2595 12) 0 0 th)
              refine ⟨by omega, Or.inl rfl⟩
  refine m_sub [(0, (2, ((2595 : Nat) : Int))), (1, (0, 0)), (2, (0, 0)), (3, (0, 1)), (4, (0, 1))] (List.forall_mem_cons.mpr ⟨rfl, List.forall_mem_cons.mpr ⟨rfl, List.forall_mem_cons.mpr ⟨rfl, List.forall_mem_cons.mpr ⟨rfl, List.forall_mem_cons.mpr ⟨rfl, fun _ h => absurd h List.not_mem_nil⟩⟩⟩⟩⟩) ?_
  refine lp8 ((((ga h 2595 4 - ((ga h 2595 12)) + (1)) : Int)) + 1).toNat (0) (0) (1) (1) ((ga h 2595 12)) h g ?_ ?_ ?_ ?_ ?_ ?_ ?_ ?_ ?_ ?_ ?_
  · exact ww
  · exact jj
  · rfl
  · omega
  · omega
  · exact ew
  · omega
  · omega
  · omega
  · exact EX.start _ _ _ _
  · omega
