/-! X12 by hand: its methods -/
set_option maxRecDepth 20000 in
set_option maxHeartbeats 8000000 in
theorem h_X12_look {h : MH} {σ : MH} {c l r s : Int} (sm : SM12 σ h) (s12 : Set12 σ) (ok : OkH σ h) (bd0 : BD12 h) (hc : 0 ≤ c ∧ c ≤ 143) (hl : 0 ≤ l ∧ l ≤ 16) (hr : 0 ≤ r ∧ r ≤ 3) (hs : 0 ≤ s ∧ s ≤ 8) (g : Str t12c r12c h) : MCal KX12_look yX12_look 0 0 [(2, ((2449 : Nat) : Int)), (0, c), (0, l), (0, r), (0, s)] h (mRI fun v h' => Only [2460, 2461, 2462, 2463] h h' ∧ OkH σ h' ∧ BD12 h' ∧ ((v = 0 ∧ h' = h ∧ Fa12 σ h c l r s) ∨ (v = 1 ∧ muH h' < muH h))) := by
  refine MCal.ofMW (Or.inl rfl) ⟨cp_X12, rfl⟩ (Nat.le_of_ble_eq_true rfl) ?_
  generalize eQ : (mRI fun v h' => Only [2460, 2461, 2462, 2463] h h' ∧ OkH σ h' ∧ BD12 h' ∧ ((v = 0 ∧ h' = h ∧ Fa12 σ h c l r s) ∨ (v = 1 ∧ muH h' < muH h)) : MO → MH → Prop) = Q
  change MW KX12_look Q 0 0 (pcA pgX12_look 0) [(0, (2, ((2449 : Nat) : Int))), (1, (0, c)), (2, (0, l)), (3, (0, r)), (4, (0, s))] [] h
  refine hd_locI (i := 1) rfl (fun rc => ?_)
  refine hd_locI (i := 2) rfl (fun rl => ?_)
  refine hd_locI (i := 3) rfl (fun rr => ?_)
  refine hd_locI (i := 4) rfl (fun rs => ?_)
  refine hd_iload pkX12_look rfl rfl ?_
  refine hd_iload pkX12_look rfl rfl ?_
  refine hd_iload pkX12_look rfl rfl ?_
  refine hd_iload pkX12_look rfl rfl ?_
  refine hd_callS pkX12_look rfl (q := (KX12_label, yX12_label, 12, 4, 1)) rfl rfl rfl (As := [(0, c), (0, l), (0, r), (0, s)]) (rest := []) rfl rfl (Nat.le_of_ble_eq_true rfl) rfl (h_X12_label hc hl hr hs g) (hd_bI (fun w1 hc2 pl => ?_))
  obtain ⟨pl, ehc2⟩ := pl
  replace ehc2 := ehc2.symm
  subst ehc2
  subst pl
  refine hd_istore pkX12_look rfl rfl ?_
  change MW _ _ _ _ _ [(5, (0, (612 * c + 36 * l + 9 * r + s))), (0, (2, ((2449 : Nat) : Int))), (1, (0, c)), (2, (0, l)), (3, (0, r)), (4, (0, s))] _ _
  refine hd_ipush (z := 0) pkX12_look rfl ?_
  refine hd_istore pkX12_look rfl rfl ?_
  change MW _ _ _ _ _ [(6, (0, 0)), (5, (0, (612 * c + 36 * l + 9 * r + s))), (0, (2, ((2449 : Nat) : Int))), (1, (0, c)), (2, (0, l)), (3, (0, r)), (4, (0, s))] _ _
  refine hd_ipush (z := 0) pkX12_look rfl ?_
  refine hd_istore pkX12_look rfl rfl ?_
  change MW _ _ _ _ _ [(7, (0, 0)), (6, (0, 0)), (5, (0, (612 * c + 36 * l + 9 * r + s))), (0, (2, ((2449 : Nat) : Int))), (1, (0, c)), (2, (0, l)), (3, (0, r)), (4, (0, s))] _ _
  have lp10 : ∀ (N10 : Nat) (bt d : Int) (hL : MH), Str t12c r12c hL → (Only [2460, 2461, 2462, 2463] h hL) → (OkH σ hL) → (BD12 hL) → (0 ≤ d ∧ d ≤ 16) → ((bt = 0 ∧ hL = h ∧ ∀ e : Int, 0 ≤ e → e < d → Fd12 σ h c l r s e) ∨ (bt = 1 ∧ muH hL < muH h)) → (16 : Int) - d < (N10 : Int) → MW KX12_look Q 0 0 (pcA pgX12_look 10) [(0, (2, ((2449 : Nat) : Int))), (1, (0, c)), (2, (0, l)), (3, (0, r)), (4, (0, s)), (5, (0, (612 * c + 36 * l + 9 * r + s))), (6, (0, bt)), (7, (0, d))] [] hL := by
    intro N10
    induction N10 with
    | zero => intro bt d hL g10 hO okL bd d0 bb hm10; exfalso; omega
    | succ N10 ih10 =>
      intro bt d hL g10 hO okL bd d0 bb hm10
      have sL := sm.only hO (by decide)
      refine hd_iload pkX12_look rfl rfl ?_
      refine hd_ipush (z := 16) pkX12_look rfl ?_
      refine hd_ic_ge pkX12_look rfl (fun c3 => ?_) (fun c3 => ?_)
      · skip
        refine hd_iload pkX12_look rfl rfl ?_
        refine hd_zret pkX12_look rfl (by rcases bb with w | w <;> omega) ?_
        subst eQ
        refine ⟨rfl, rfl, hO, okL, bd, ?_⟩
        rcases bb with ⟨b0, e, f⟩ | b1
        · exact Or.inl ⟨b0, e, fun x x0 x1 => f x x0 (by omega)⟩
        · exact Or.inr b1
      · skip
        refine hd_aload pkX12_look rfl rfl (Int.natCast_nonneg _) ?_
        refine hd_iload pkX12_look rfl rfl ?_
        refine hd_iload pkX12_look rfl rfl ?_
        refine hd_iload pkX12_look rfl rfl ?_
        refine hd_iload pkX12_look rfl rfl ?_
        refine hd_iload pkX12_look rfl rfl ?_
        refine hd_callV pkX12_look rfl (q := (KX12_onward, yX12_onward, 12, 5, 0)) rfl rfl rfl (As := [(0, c), (0, l), (0, r), (0, s), (0, d)]) (rest := []) (c := 2449) rfl rfl (Nat.le_of_ble_eq_true rfl) (g10.cell 0 rfl).1 (g10.cell 0 rfl).2.1 (h_X12_onward sL (sL.s s12) hc hl hr hs ⟨d0.1, by omega⟩ g10) (hd_bI (fun nx hc4 po => ?_))
        obtain ⟨po, ehc4⟩ := po
        replace ehc4 := ehc4.symm
        subst ehc4
        refine hd_istore pkX12_look rfl rfl ?_
        change MW _ _ _ _ _ [(8, (0, nx)), (0, (2, ((2449 : Nat) : Int))), (1, (0, c)), (2, (0, l)), (3, (0, r)), (4, (0, s)), (5, (0, (612 * c + 36 * l + 9 * r + s))), (6, (0, bt)), (7, (0, d))] _ _
        refine hd_iload pkX12_look rfl rfl ?_
        refine hd_ipush (z := (-1)) pkX12_look rfl ?_
        refine hd_ic_eq pkX12_look rfl (fun c5 => ?_) (fun c5 => ?_)
        · skip
          have fd : Fd12 σ hL c l r s d := fun o k q => (po.elim (fun w => w.2 ⟨o, k, q⟩) (fun w => by have := w.1; omega)).elim
          refine hd_iinc (z := 1) pkX12_look rfl rfl (by omega) rfl ?_
          change MW _ _ _ _ _ [(7, (0, (d + 1))), (8, (0, nx)), (0, (2, ((2449 : Nat) : Int))), (1, (0, c)), (2, (0, l)), (3, (0, r)), (4, (0, s)), (5, (0, (612 * c + 36 * l + 9 * r + s))), (6, (0, bt))] _ _
          refine hd_goto pkX12_look rfl ?_
          refine m_sub [(0, (2, ((2449 : Nat) : Int))), (1, (0, c)), (2, (0, l)), (3, (0, r)), (4, (0, s)), (5, (0, (612 * c + 36 * l + 9 * r + s))), (6, (0, bt)), (7, (0, (d + 1)))] (List.forall_mem_cons.mpr ⟨rfl, List.forall_mem_cons.mpr ⟨rfl, List.forall_mem_cons.mpr ⟨rfl, List.forall_mem_cons.mpr ⟨rfl, List.forall_mem_cons.mpr ⟨rfl, List.forall_mem_cons.mpr ⟨rfl, List.forall_mem_cons.mpr ⟨rfl, List.forall_mem_cons.mpr ⟨rfl, fun _ h => absurd h List.not_mem_nil⟩⟩⟩⟩⟩⟩⟩⟩) ?_
          refine ih10  (bt) ((d + 1)) hL g10 ?_ ?_ ?_ ?_ ?_ ?_
          · exact hO
          · exact okL
          · exact bd
          · omega
          · rcases bb with ⟨b0, e, f⟩ | ⟨b1, e⟩
            · refine Or.inl ⟨b0, e, fun x x0 x1 => ?_⟩
              by_cases w : x = d
              · rw [w]
                rw [e] at fd
                exact fd
              · exact f x x0 (by omega)
            · exact Or.inr ⟨b1, e⟩
          · omega
        · skip
          obtain ⟨n0, en, o, k, q⟩ := po.resolve_left (fun w => c5 w.1)
          have nb := nxF_b s12 o ⟨d0.1, by omega⟩ hs k
          rw [← en] at nb q
          have sb := (on12_b s12 o).1
          have kb := okL.b (ed12_b s12) nb.1.1 nb.1.2 q
          have pb9 := prF_b s12 (d := d) sb.1 sb.2
          have db := dtF_b l d
          refine hd_aload pkX12_look rfl rfl (Int.natCast_nonneg _) ?_
          refine hd_getR (n := 2460) pkX12_look rfl (g10.cell 0 rfl).1 (g10.cell 0 rfl).2.1 (g10.ref 10 rfl) ?_
          refine hd_iload pkX12_look rfl rfl ?_
          refine hd_lald (n := 88128) pkX12_look rfl (g10.cell 11 rfl) (by omega) (by omega) (fun v6 ev6 rv6 => ?_)
          obtain ⟨bn, qv6⟩ : ∃ x : Int, x = v6 := ⟨_, rfl⟩
          have ebn : bn = ga hL 2460 nx := qv6.trans ev6
          subst qv6
          refine hd_aload pkX12_look rfl rfl (Int.natCast_nonneg _) ?_
          refine hd_iload pkX12_look rfl rfl ?_
          refine hd_ipush (z := 612) pkX12_look rfl ?_
          refine hd_idiv pkX12_look rfl (by omega) (by rw [(tdiv12 nb.1.1 (by omega)).1]; omega) ?_
          generalize eto : (Int.tdiv nx 612) = to
          rw [(tdiv12 nb.1.1 (by omega)).1, nb.2.1] at eto
          have tb : 0 ≤ to ∧ to ≤ 143 := by omega
          refine hd_iload pkX12_look rfl rfl ?_
          refine hd_callV pkX12_look rfl (q := (KX12_price, yX12_price, 12, 2, 0)) rfl rfl rfl (As := [(0, to), (0, d)]) (rest := [(1, bn)]) (c := 2449) rfl rfl (Nat.le_of_ble_eq_true rfl) (g10.cell 0 rfl).1 (g10.cell 0 rfl).2.1 (h_X12_price (sL.s s12) tb ⟨d0.1, by omega⟩ g10) (hd_bL (fun pv hc7 pp => ?_))
          obtain ⟨pp, ehc7⟩ := pp
          replace ehc7 := ehc7.symm
          subst ehc7
          rw [← eto, sL.pr] at pp
          refine hd_ladd pkX12_look rfl (by omega) ?_
          refine hd_lstore pkX12_look rfl rfl ?_
          change MW _ _ _ _ _ [(9, (1, (bn + pv))), (8, (0, nx)), (0, (2, ((2449 : Nat) : Int))), (1, (0, c)), (2, (0, l)), (3, (0, r)), (4, (0, s)), (5, (0, (612 * c + 36 * l + 9 * r + s))), (6, (0, bt)), (7, (0, d))] _ _
          refine hd_aload pkX12_look rfl rfl (Int.natCast_nonneg _) ?_
          refine hd_getR (n := 2461) pkX12_look rfl (g10.cell 0 rfl).1 (g10.cell 0 rfl).2.1 (g10.ref 11 rfl) ?_
          refine hd_iload pkX12_look rfl rfl ?_
          refine hd_iald (n := 88128) pkX12_look rfl (g10.cell 12 rfl) (by omega) (by omega) (fun v8 ev8 rv8 => ?_)
          obtain ⟨tn, qv8⟩ : ∃ x : Int, x = v8 := ⟨_, rfl⟩
          have etn : tn = ga hL 2461 nx := qv8.trans ev8
          subst qv8
          have cut49 : ∀ (dt : Int), (dt = dtF l d) → MW KX12_look Q 0 0 (pcA pgX12_look 49) [(0, (2, ((2449 : Nat) : Int))), (1, (0, c)), (2, (0, l)), (3, (0, r)), (4, (0, s)), (5, (0, (612 * c + 36 * l + 9 * r + s))), (6, (0, bt)), (7, (0, d)), (8, (0, nx)), (9, (1, (bn + pv)))] [(0, dt), (0, tn)] hL := by
            intro dt edt
            refine hd_iadd pkX12_look rfl (by omega) ?_
            refine hd_istore pkX12_look rfl rfl ?_
            change MW _ _ _ _ _ [(11, (0, (tn + dt))), (0, (2, ((2449 : Nat) : Int))), (1, (0, c)), (2, (0, l)), (3, (0, r)), (4, (0, s)), (5, (0, (612 * c + 36 * l + 9 * r + s))), (6, (0, bt)), (7, (0, d)), (8, (0, nx)), (9, (1, (bn + pv)))] _ _
            refine hd_aload pkX12_look rfl rfl (Int.natCast_nonneg _) ?_
            refine hd_getR (n := 2462) pkX12_look rfl (g10.cell 0 rfl).1 (g10.cell 0 rfl).2.1 (g10.ref 12 rfl) ?_
            refine hd_iload pkX12_look rfl rfl ?_
            refine hd_iald (n := 88128) pkX12_look rfl (g10.cell 13 rfl) (by omega) (by omega) (fun v9 ev9 rv9 => ?_)
            obtain ⟨mn, qv9⟩ : ∃ x : Int, x = v9 := ⟨_, rfl⟩
            have emn : mn = ga hL 2462 nx := qv9.trans ev9
            subst qv9
            refine hd_ipush (z := 1) pkX12_look rfl ?_
            refine hd_iadd pkX12_look rfl (by omega) ?_
            refine hd_istore pkX12_look rfl rfl ?_
            change MW _ _ _ _ _ [(12, (0, (mn + 1))), (11, (0, (tn + dt))), (0, (2, ((2449 : Nat) : Int))), (1, (0, c)), (2, (0, l)), (3, (0, r)), (4, (0, s)), (5, (0, (612 * c + 36 * l + 9 * r + s))), (6, (0, bt)), (7, (0, d)), (8, (0, nx)), (9, (1, (bn + pv)))] _ _
            have cut98 : ∀ (bz : Int), (Tv12 bz (ga hL 2463 (612 * c + 36 * l + 9 * r + s) = 0 ∨ lt3 (bn + pv) (tn + dt) (mn + 1) (ga hL 2460 (612 * c + 36 * l + 9 * r + s)) (ga hL 2461 (612 * c + 36 * l + 9 * r + s)) (ga hL 2462 (612 * c + 36 * l + 9 * r + s)))) → MW KX12_look Q 0 0 (pcA pgX12_look 98) [(0, (2, ((2449 : Nat) : Int))), (1, (0, c)), (2, (0, l)), (3, (0, r)), (4, (0, s)), (5, (0, (612 * c + 36 * l + 9 * r + s))), (6, (0, bt)), (7, (0, d)), (8, (0, nx)), (9, (1, (bn + pv))), (11, (0, (tn + dt))), (12, (0, (mn + 1)))] [(0, bz)] hL := by
              intro bz ebz
              refine hd_istore pkX12_look rfl rfl ?_
              change MW _ _ _ _ _ [(13, (0, bz)), (0, (2, ((2449 : Nat) : Int))), (1, (0, c)), (2, (0, l)), (3, (0, r)), (4, (0, s)), (5, (0, (612 * c + 36 * l + 9 * r + s))), (6, (0, bt)), (7, (0, d)), (8, (0, nx)), (9, (1, (bn + pv))), (11, (0, (tn + dt))), (12, (0, (mn + 1)))] _ _
              refine hd_iload pkX12_look rfl rfl ?_
              refine hd_if_eq pkX12_look rfl (fun c10 => ?_) (fun c10 => ?_)
              · skip
                have nl := ebz.f c10
                have fd : Fd12 σ hL c l r s d := by
                  intro _ _ _
                  rw [← en, ← ebn, ← etn, ← emn, ← pp, ← edt]
                  unfold lt3 at nl
                  unfold le3
                  omega
                refine hd_iinc (z := 1) pkX12_look rfl rfl (by omega) rfl ?_
                change MW _ _ _ _ _ [(7, (0, (d + 1))), (13, (0, bz)), (0, (2, ((2449 : Nat) : Int))), (1, (0, c)), (2, (0, l)), (3, (0, r)), (4, (0, s)), (5, (0, (612 * c + 36 * l + 9 * r + s))), (6, (0, bt)), (8, (0, nx)), (9, (1, (bn + pv))), (11, (0, (tn + dt))), (12, (0, (mn + 1)))] _ _
                refine hd_goto pkX12_look rfl ?_
                refine m_sub [(0, (2, ((2449 : Nat) : Int))), (1, (0, c)), (2, (0, l)), (3, (0, r)), (4, (0, s)), (5, (0, (612 * c + 36 * l + 9 * r + s))), (6, (0, bt)), (7, (0, (d + 1)))] (List.forall_mem_cons.mpr ⟨rfl, List.forall_mem_cons.mpr ⟨rfl, List.forall_mem_cons.mpr ⟨rfl, List.forall_mem_cons.mpr ⟨rfl, List.forall_mem_cons.mpr ⟨rfl, List.forall_mem_cons.mpr ⟨rfl, List.forall_mem_cons.mpr ⟨rfl, List.forall_mem_cons.mpr ⟨rfl, fun _ h => absurd h List.not_mem_nil⟩⟩⟩⟩⟩⟩⟩⟩) ?_
                refine ih10  (bt) ((d + 1)) hL g10 ?_ ?_ ?_ ?_ ?_ ?_
                · exact hO
                · exact okL
                · exact bd
                · omega
                · rcases bb with ⟨b0, e, f⟩ | ⟨b1, e⟩
                  · refine Or.inl ⟨b0, e, fun x x0 x1 => ?_⟩
                    by_cases w : x = d
                    · rw [w]
                      rw [e] at fd
                      exact fd
                    · exact f x x0 (by omega)
                  · exact Or.inr ⟨b1, e⟩
                · omega
              · skip
                have ls := ebz.t c10
                refine hd_aload pkX12_look rfl rfl (Int.natCast_nonneg _) ?_
                refine hd_getR (n := 2463) pkX12_look rfl (g10.cell 0 rfl).1 (g10.cell 0 rfl).2.1 (g10.ref 13 rfl) ?_
                refine hd_iload pkX12_look rfl rfl ?_
                refine hd_ipush (z := 1) pkX12_look rfl ?_
                refine hd_zast (n := 88128) pkX12_look rfl (g10.cell 14 rfl) (by decide) (by omega) (by omega) (by omega) (fun hh11 ehh11 => ?_)
                have ghh11 : Str t12c r12c hh11 := by rw [ehh11]; exact g10.setA rfl
                have o1 : Only [2460, 2461, 2462, 2463] h hh11 := by rw [ehh11]; exact hO.set (by decide)
                have f2463_0 : ∀ j : Int, 0 ≤ j → ga hh11 2463 j = if j = (612 * c + 36 * l + 9 * r + s) then 1 else ga hL 2463 j := fun j a => by rw [ehh11]; exact ga_sa _ _ _ (by omega) a
                have f2460_0 : ∀ j : Int, ga hh11 2460 j = ga hL 2460 j := fun j => by rw [ehh11, ga_ne _ _ _ _ (by decide)]
                have f2461_0 : ∀ j : Int, ga hh11 2461 j = ga hL 2461 j := fun j => by rw [ehh11, ga_ne _ _ _ _ (by decide)]
                have f2462_0 : ∀ j : Int, ga hh11 2462 j = ga hL 2462 j := fun j => by rw [ehh11, ga_ne _ _ _ _ (by decide)]
                refine hd_aload pkX12_look rfl rfl (Int.natCast_nonneg _) ?_
                refine hd_getR (n := 2460) pkX12_look rfl (ghh11.cell 0 rfl).1 (ghh11.cell 0 rfl).2.1 (ghh11.ref 10 rfl) ?_
                refine hd_iload pkX12_look rfl rfl ?_
                refine hd_lload pkX12_look rfl rfl ?_
                refine hd_last (n := 88128) pkX12_look rfl (ghh11.cell 11 rfl) (by decide) (by omega) (by omega) (fun hh12 ehh12 => ?_)
                have ghh12 : Str t12c r12c hh12 := by rw [ehh12]; exact ghh11.setA rfl
                have o2 : Only [2460, 2461, 2462, 2463] h hh12 := by rw [ehh12]; exact o1.set (by decide)
                have f2463_1 : ∀ j : Int, 0 ≤ j → ga hh12 2463 j = if j = (612 * c + 36 * l + 9 * r + s) then 1 else ga hL 2463 j := fun j a => by rw [ehh12, ga_ne _ _ _ _ (by decide)]; exact f2463_0 j a
                have f2460_1 : ∀ j : Int, 0 ≤ j → ga hh12 2460 j = if j = (612 * c + 36 * l + 9 * r + s) then (bn + pv) else ga hL 2460 j := fun j a => by rw [ehh12, ga_sa _ _ _ (by omega) a, f2460_0]
                have f2461_1 : ∀ j : Int, ga hh12 2461 j = ga hL 2461 j := fun j => by rw [ehh12, ga_ne _ _ _ _ (by decide)]; exact f2461_0 j
                have f2462_1 : ∀ j : Int, ga hh12 2462 j = ga hL 2462 j := fun j => by rw [ehh12, ga_ne _ _ _ _ (by decide)]; exact f2462_0 j
                refine hd_aload pkX12_look rfl rfl (Int.natCast_nonneg _) ?_
                refine hd_getR (n := 2461) pkX12_look rfl (ghh12.cell 0 rfl).1 (ghh12.cell 0 rfl).2.1 (ghh12.ref 11 rfl) ?_
                refine hd_iload pkX12_look rfl rfl ?_
                refine hd_iload pkX12_look rfl rfl ?_
                refine hd_iast (n := 88128) pkX12_look rfl (ghh12.cell 12 rfl) (by decide) (by omega) (by omega) (fun hh13 ehh13 => ?_)
                have ghh13 : Str t12c r12c hh13 := by rw [ehh13]; exact ghh12.setA rfl
                have o3 : Only [2460, 2461, 2462, 2463] h hh13 := by rw [ehh13]; exact o2.set (by decide)
                have f2463_2 : ∀ j : Int, 0 ≤ j → ga hh13 2463 j = if j = (612 * c + 36 * l + 9 * r + s) then 1 else ga hL 2463 j := fun j a => by rw [ehh13, ga_ne _ _ _ _ (by decide)]; exact f2463_1 j a
                have f2460_2 : ∀ j : Int, 0 ≤ j → ga hh13 2460 j = if j = (612 * c + 36 * l + 9 * r + s) then (bn + pv) else ga hL 2460 j := fun j a => by rw [ehh13, ga_ne _ _ _ _ (by decide)]; exact f2460_1 j a
                have f2461_2 : ∀ j : Int, 0 ≤ j → ga hh13 2461 j = if j = (612 * c + 36 * l + 9 * r + s) then (tn + dt) else ga hL 2461 j := fun j a => by rw [ehh13, ga_sa _ _ _ (by omega) a, f2461_1]
                have f2462_2 : ∀ j : Int, ga hh13 2462 j = ga hL 2462 j := fun j => by rw [ehh13, ga_ne _ _ _ _ (by decide)]; exact f2462_1 j
                refine hd_aload pkX12_look rfl rfl (Int.natCast_nonneg _) ?_
                refine hd_getR (n := 2462) pkX12_look rfl (ghh13.cell 0 rfl).1 (ghh13.cell 0 rfl).2.1 (ghh13.ref 12 rfl) ?_
                refine hd_iload pkX12_look rfl rfl ?_
                refine hd_iload pkX12_look rfl rfl ?_
                refine hd_iast (n := 88128) pkX12_look rfl (ghh13.cell 13 rfl) (by decide) (by omega) (by omega) (fun hh14 ehh14 => ?_)
                have ghh14 : Str t12c r12c hh14 := by rw [ehh14]; exact ghh13.setA rfl
                have o4 : Only [2460, 2461, 2462, 2463] h hh14 := by rw [ehh14]; exact o3.set (by decide)
                have f2463_3 : ∀ j : Int, 0 ≤ j → ga hh14 2463 j = if j = (612 * c + 36 * l + 9 * r + s) then 1 else ga hL 2463 j := fun j a => by rw [ehh14, ga_ne _ _ _ _ (by decide)]; exact f2463_2 j a
                have f2460_3 : ∀ j : Int, 0 ≤ j → ga hh14 2460 j = if j = (612 * c + 36 * l + 9 * r + s) then (bn + pv) else ga hL 2460 j := fun j a => by rw [ehh14, ga_ne _ _ _ _ (by decide)]; exact f2460_2 j a
                have f2461_3 : ∀ j : Int, 0 ≤ j → ga hh14 2461 j = if j = (612 * c + 36 * l + 9 * r + s) then (tn + dt) else ga hL 2461 j := fun j a => by rw [ehh14, ga_ne _ _ _ _ (by decide)]; exact f2461_2 j a
                have f2462_3 : ∀ j : Int, 0 ≤ j → ga hh14 2462 j = if j = (612 * c + 36 * l + 9 * r + s) then (mn + 1) else ga hL 2462 j := fun j a => by rw [ehh14, ga_sa _ _ _ (by omega) a, f2462_2]
                rw [ebn, etn, emn] at ls
                rw [ebn] at f2460_3
                rw [etn] at f2461_3
                rw [emn] at f2462_3
                have okN : OkH σ hh14 := okL.step (ed12_b s12) (i := (612 * c + 36 * l + 9 * r + s)) (n := nx) (p := pv) (t := dt) (by omega) (by omega) nb.1.1 nb.1.2 ⟨c, l, r, s, d, ⟨rfl, hc, hl, hr, hs.1, hs.2⟩, ⟨d0.1, by omega⟩, o, k, en, pp, edt⟩ q ls f2463_3 f2460_3 f2461_3 f2462_3
                have muN : muH hh14 < muH hL := okL.less (ed12_b s12) okN (by omega) (by omega) ls f2463_3 f2460_3 f2461_3 f2462_3 rfl
                have bN := okN.b (ed12_b s12) (i := (612 * c + 36 * l + 9 * r + s)) (by omega) (by omega) (by rw [f2463_3 _ (by omega), if_pos rfl]; decide)
                rw [f2460_3 _ (by omega), f2461_3 _ (by omega), f2462_3 _ (by omega), if_pos rfl, if_pos rfl, if_pos rfl] at bN
                have bdN : BD12 hh14 := bd.set f2460_3 f2461_3 f2462_3 (by omega) (by omega) (by omega)
                refine hd_ipush (z := 1) pkX12_look rfl ?_
                refine hd_istore pkX12_look rfl rfl ?_
                change MW _ _ _ _ _ [(6, (0, 1)), (13, (0, bz)), (0, (2, ((2449 : Nat) : Int))), (1, (0, c)), (2, (0, l)), (3, (0, r)), (4, (0, s)), (5, (0, (612 * c + 36 * l + 9 * r + s))), (7, (0, d)), (8, (0, nx)), (9, (1, (bn + pv))), (11, (0, (tn + dt))), (12, (0, (mn + 1)))] _ _
                refine hd_iinc (z := 1) pkX12_look rfl rfl (by omega) rfl ?_
                change MW _ _ _ _ _ [(7, (0, (d + 1))), (6, (0, 1)), (13, (0, bz)), (0, (2, ((2449 : Nat) : Int))), (1, (0, c)), (2, (0, l)), (3, (0, r)), (4, (0, s)), (5, (0, (612 * c + 36 * l + 9 * r + s))), (8, (0, nx)), (9, (1, (bn + pv))), (11, (0, (tn + dt))), (12, (0, (mn + 1)))] _ _
                refine hd_goto pkX12_look rfl ?_
                refine m_sub [(0, (2, ((2449 : Nat) : Int))), (1, (0, c)), (2, (0, l)), (3, (0, r)), (4, (0, s)), (5, (0, (612 * c + 36 * l + 9 * r + s))), (6, (0, 1)), (7, (0, (d + 1)))] (List.forall_mem_cons.mpr ⟨rfl, List.forall_mem_cons.mpr ⟨rfl, List.forall_mem_cons.mpr ⟨rfl, List.forall_mem_cons.mpr ⟨rfl, List.forall_mem_cons.mpr ⟨rfl, List.forall_mem_cons.mpr ⟨rfl, List.forall_mem_cons.mpr ⟨rfl, List.forall_mem_cons.mpr ⟨rfl, fun _ h => absurd h List.not_mem_nil⟩⟩⟩⟩⟩⟩⟩⟩) ?_
                refine ih10  (1) ((d + 1)) hh14 ghh14 ?_ ?_ ?_ ?_ ?_ ?_
                · exact o4
                · exact okN
                · exact bdN
                · omega
                · exact Or.inr ⟨rfl, by
                    rcases bb with ⟨_, e, _⟩ | ⟨_, e⟩
                    · rw [e] at muN
                      exact muN
                    · omega⟩
                · omega
            refine hd_aload pkX12_look rfl rfl (Int.natCast_nonneg _) ?_
            refine hd_getR (n := 2463) pkX12_look rfl (g10.cell 0 rfl).1 (g10.cell 0 rfl).2.1 (g10.ref 13 rfl) ?_
            refine hd_iload pkX12_look rfl rfl ?_
            refine hd_zald (n := 88128) pkX12_look rfl (g10.cell 14 rfl) (by omega) (by omega) (fun v15 ev15 rv15 => ?_)
            refine hd_if_eq pkX12_look rfl (fun c16 => ?_) (fun c16 => ?_)
            · skip
              refine hd_ipush (z := 1) pkX12_look rfl ?_
              refine hd_goto pkX12_look rfl ?_
              refine m_sub [(0, (2, ((2449 : Nat) : Int))), (1, (0, c)), (2, (0, l)), (3, (0, r)), (4, (0, s)), (5, (0, (612 * c + 36 * l + 9 * r + s))), (6, (0, bt)), (7, (0, d)), (8, (0, nx)), (9, (1, (bn + pv))), (11, (0, (tn + dt))), (12, (0, (mn + 1)))] (List.forall_mem_cons.mpr ⟨rfl, List.forall_mem_cons.mpr ⟨rfl, List.forall_mem_cons.mpr ⟨rfl, List.forall_mem_cons.mpr ⟨rfl, List.forall_mem_cons.mpr ⟨rfl, List.forall_mem_cons.mpr ⟨rfl, List.forall_mem_cons.mpr ⟨rfl, List.forall_mem_cons.mpr ⟨rfl, List.forall_mem_cons.mpr ⟨rfl, List.forall_mem_cons.mpr ⟨rfl, List.forall_mem_cons.mpr ⟨rfl, List.forall_mem_cons.mpr ⟨rfl, fun _ h => absurd h List.not_mem_nil⟩⟩⟩⟩⟩⟩⟩⟩⟩⟩⟩⟩) ?_
              refine cut98 (1) ?_
              · unfold Tv12 lt3
                omega
            · skip
              refine hd_lload pkX12_look rfl rfl ?_
              refine hd_aload pkX12_look rfl rfl (Int.natCast_nonneg _) ?_
              refine hd_getR (n := 2460) pkX12_look rfl (g10.cell 0 rfl).1 (g10.cell 0 rfl).2.1 (g10.ref 10 rfl) ?_
              refine hd_iload pkX12_look rfl rfl ?_
              refine hd_lald (n := 88128) pkX12_look rfl (g10.cell 11 rfl) (by omega) (by omega) (fun v17 ev17 rv17 => ?_)
              refine hd_lc_lt pkX12_look rfl (fun c18 => ?_) (fun c18 => ?_)
              · skip
                refine hd_ipush (z := 1) pkX12_look rfl ?_
                refine hd_goto pkX12_look rfl ?_
                refine m_sub [(0, (2, ((2449 : Nat) : Int))), (1, (0, c)), (2, (0, l)), (3, (0, r)), (4, (0, s)), (5, (0, (612 * c + 36 * l + 9 * r + s))), (6, (0, bt)), (7, (0, d)), (8, (0, nx)), (9, (1, (bn + pv))), (11, (0, (tn + dt))), (12, (0, (mn + 1)))] (List.forall_mem_cons.mpr ⟨rfl, List.forall_mem_cons.mpr ⟨rfl, List.forall_mem_cons.mpr ⟨rfl, List.forall_mem_cons.mpr ⟨rfl, List.forall_mem_cons.mpr ⟨rfl, List.forall_mem_cons.mpr ⟨rfl, List.forall_mem_cons.mpr ⟨rfl, List.forall_mem_cons.mpr ⟨rfl, List.forall_mem_cons.mpr ⟨rfl, List.forall_mem_cons.mpr ⟨rfl, List.forall_mem_cons.mpr ⟨rfl, List.forall_mem_cons.mpr ⟨rfl, fun _ h => absurd h List.not_mem_nil⟩⟩⟩⟩⟩⟩⟩⟩⟩⟩⟩⟩) ?_
                refine cut98 (1) ?_
                · unfold Tv12 lt3
                  omega
              · skip
                refine hd_lload pkX12_look rfl rfl ?_
                refine hd_aload pkX12_look rfl rfl (Int.natCast_nonneg _) ?_
                refine hd_getR (n := 2460) pkX12_look rfl (g10.cell 0 rfl).1 (g10.cell 0 rfl).2.1 (g10.ref 10 rfl) ?_
                refine hd_iload pkX12_look rfl rfl ?_
                refine hd_lald (n := 88128) pkX12_look rfl (g10.cell 11 rfl) (by omega) (by omega) (fun v19 ev19 rv19 => ?_)
                refine hd_lc_ne pkX12_look rfl (fun c20 => ?_) (fun c20 => ?_)
                · skip
                  refine hd_ipush (z := 0) pkX12_look rfl ?_
                  refine m_sub [(0, (2, ((2449 : Nat) : Int))), (1, (0, c)), (2, (0, l)), (3, (0, r)), (4, (0, s)), (5, (0, (612 * c + 36 * l + 9 * r + s))), (6, (0, bt)), (7, (0, d)), (8, (0, nx)), (9, (1, (bn + pv))), (11, (0, (tn + dt))), (12, (0, (mn + 1)))] (List.forall_mem_cons.mpr ⟨rfl, List.forall_mem_cons.mpr ⟨rfl, List.forall_mem_cons.mpr ⟨rfl, List.forall_mem_cons.mpr ⟨rfl, List.forall_mem_cons.mpr ⟨rfl, List.forall_mem_cons.mpr ⟨rfl, List.forall_mem_cons.mpr ⟨rfl, List.forall_mem_cons.mpr ⟨rfl, List.forall_mem_cons.mpr ⟨rfl, List.forall_mem_cons.mpr ⟨rfl, List.forall_mem_cons.mpr ⟨rfl, List.forall_mem_cons.mpr ⟨rfl, fun _ h => absurd h List.not_mem_nil⟩⟩⟩⟩⟩⟩⟩⟩⟩⟩⟩⟩) ?_
                  refine cut98 (0) ?_
                  · unfold Tv12 lt3
                    omega
                · skip
                  refine hd_iload pkX12_look rfl rfl ?_
                  refine hd_aload pkX12_look rfl rfl (Int.natCast_nonneg _) ?_
                  refine hd_getR (n := 2461) pkX12_look rfl (g10.cell 0 rfl).1 (g10.cell 0 rfl).2.1 (g10.ref 11 rfl) ?_
                  refine hd_iload pkX12_look rfl rfl ?_
                  refine hd_iald (n := 88128) pkX12_look rfl (g10.cell 12 rfl) (by omega) (by omega) (fun v21 ev21 rv21 => ?_)
                  refine hd_ic_lt pkX12_look rfl (fun c22 => ?_) (fun c22 => ?_)
                  · skip
                    refine hd_ipush (z := 1) pkX12_look rfl ?_
                    refine hd_goto pkX12_look rfl ?_
                    refine m_sub [(0, (2, ((2449 : Nat) : Int))), (1, (0, c)), (2, (0, l)), (3, (0, r)), (4, (0, s)), (5, (0, (612 * c + 36 * l + 9 * r + s))), (6, (0, bt)), (7, (0, d)), (8, (0, nx)), (9, (1, (bn + pv))), (11, (0, (tn + dt))), (12, (0, (mn + 1)))] (List.forall_mem_cons.mpr ⟨rfl, List.forall_mem_cons.mpr ⟨rfl, List.forall_mem_cons.mpr ⟨rfl, List.forall_mem_cons.mpr ⟨rfl, List.forall_mem_cons.mpr ⟨rfl, List.forall_mem_cons.mpr ⟨rfl, List.forall_mem_cons.mpr ⟨rfl, List.forall_mem_cons.mpr ⟨rfl, List.forall_mem_cons.mpr ⟨rfl, List.forall_mem_cons.mpr ⟨rfl, List.forall_mem_cons.mpr ⟨rfl, List.forall_mem_cons.mpr ⟨rfl, fun _ h => absurd h List.not_mem_nil⟩⟩⟩⟩⟩⟩⟩⟩⟩⟩⟩⟩) ?_
                    refine cut98 (1) ?_
                    · unfold Tv12 lt3
                      omega
                  · skip
                    refine hd_iload pkX12_look rfl rfl ?_
                    refine hd_aload pkX12_look rfl rfl (Int.natCast_nonneg _) ?_
                    refine hd_getR (n := 2461) pkX12_look rfl (g10.cell 0 rfl).1 (g10.cell 0 rfl).2.1 (g10.ref 11 rfl) ?_
                    refine hd_iload pkX12_look rfl rfl ?_
                    refine hd_iald (n := 88128) pkX12_look rfl (g10.cell 12 rfl) (by omega) (by omega) (fun v23 ev23 rv23 => ?_)
                    refine hd_ic_ne pkX12_look rfl (fun c24 => ?_) (fun c24 => ?_)
                    · skip
                      refine hd_ipush (z := 0) pkX12_look rfl ?_
                      refine m_sub [(0, (2, ((2449 : Nat) : Int))), (1, (0, c)), (2, (0, l)), (3, (0, r)), (4, (0, s)), (5, (0, (612 * c + 36 * l + 9 * r + s))), (6, (0, bt)), (7, (0, d)), (8, (0, nx)), (9, (1, (bn + pv))), (11, (0, (tn + dt))), (12, (0, (mn + 1)))] (List.forall_mem_cons.mpr ⟨rfl, List.forall_mem_cons.mpr ⟨rfl, List.forall_mem_cons.mpr ⟨rfl, List.forall_mem_cons.mpr ⟨rfl, List.forall_mem_cons.mpr ⟨rfl, List.forall_mem_cons.mpr ⟨rfl, List.forall_mem_cons.mpr ⟨rfl, List.forall_mem_cons.mpr ⟨rfl, List.forall_mem_cons.mpr ⟨rfl, List.forall_mem_cons.mpr ⟨rfl, List.forall_mem_cons.mpr ⟨rfl, List.forall_mem_cons.mpr ⟨rfl, fun _ h => absurd h List.not_mem_nil⟩⟩⟩⟩⟩⟩⟩⟩⟩⟩⟩⟩) ?_
                      refine cut98 (0) ?_
                      · unfold Tv12 lt3
                        omega
                    · skip
                      refine hd_iload pkX12_look rfl rfl ?_
                      refine hd_aload pkX12_look rfl rfl (Int.natCast_nonneg _) ?_
                      refine hd_getR (n := 2462) pkX12_look rfl (g10.cell 0 rfl).1 (g10.cell 0 rfl).2.1 (g10.ref 12 rfl) ?_
                      refine hd_iload pkX12_look rfl rfl ?_
                      refine hd_iald (n := 88128) pkX12_look rfl (g10.cell 13 rfl) (by omega) (by omega) (fun v25 ev25 rv25 => ?_)
                      refine hd_ic_ge pkX12_look rfl (fun c26 => ?_) (fun c26 => ?_)
                      · skip
                        refine hd_ipush (z := 0) pkX12_look rfl ?_
                        refine m_sub [(0, (2, ((2449 : Nat) : Int))), (1, (0, c)), (2, (0, l)), (3, (0, r)), (4, (0, s)), (5, (0, (612 * c + 36 * l + 9 * r + s))), (6, (0, bt)), (7, (0, d)), (8, (0, nx)), (9, (1, (bn + pv))), (11, (0, (tn + dt))), (12, (0, (mn + 1)))] (List.forall_mem_cons.mpr ⟨rfl, List.forall_mem_cons.mpr ⟨rfl, List.forall_mem_cons.mpr ⟨rfl, List.forall_mem_cons.mpr ⟨rfl, List.forall_mem_cons.mpr ⟨rfl, List.forall_mem_cons.mpr ⟨rfl, List.forall_mem_cons.mpr ⟨rfl, List.forall_mem_cons.mpr ⟨rfl, List.forall_mem_cons.mpr ⟨rfl, List.forall_mem_cons.mpr ⟨rfl, List.forall_mem_cons.mpr ⟨rfl, List.forall_mem_cons.mpr ⟨rfl, fun _ h => absurd h List.not_mem_nil⟩⟩⟩⟩⟩⟩⟩⟩⟩⟩⟩⟩) ?_
                        refine cut98 (0) ?_
                        · unfold Tv12 lt3
                          omega
                      · skip
                        refine hd_ipush (z := 1) pkX12_look rfl ?_
                        refine hd_goto pkX12_look rfl ?_
                        refine m_sub [(0, (2, ((2449 : Nat) : Int))), (1, (0, c)), (2, (0, l)), (3, (0, r)), (4, (0, s)), (5, (0, (612 * c + 36 * l + 9 * r + s))), (6, (0, bt)), (7, (0, d)), (8, (0, nx)), (9, (1, (bn + pv))), (11, (0, (tn + dt))), (12, (0, (mn + 1)))] (List.forall_mem_cons.mpr ⟨rfl, List.forall_mem_cons.mpr ⟨rfl, List.forall_mem_cons.mpr ⟨rfl, List.forall_mem_cons.mpr ⟨rfl, List.forall_mem_cons.mpr ⟨rfl, List.forall_mem_cons.mpr ⟨rfl, List.forall_mem_cons.mpr ⟨rfl, List.forall_mem_cons.mpr ⟨rfl, List.forall_mem_cons.mpr ⟨rfl, List.forall_mem_cons.mpr ⟨rfl, List.forall_mem_cons.mpr ⟨rfl, List.forall_mem_cons.mpr ⟨rfl, fun _ h => absurd h List.not_mem_nil⟩⟩⟩⟩⟩⟩⟩⟩⟩⟩⟩⟩) ?_
                        refine cut98 (1) ?_
                        · unfold Tv12 lt3
                          omega
          refine hd_iload pkX12_look rfl rfl ?_
          refine hd_ipush (z := 16) pkX12_look rfl ?_
          refine hd_ic_eq pkX12_look rfl (fun c27 => ?_) (fun c27 => ?_)
          · skip
            refine hd_ipush (z := 0) pkX12_look rfl ?_
            refine hd_goto pkX12_look rfl ?_
            refine m_sub [(0, (2, ((2449 : Nat) : Int))), (1, (0, c)), (2, (0, l)), (3, (0, r)), (4, (0, s)), (5, (0, (612 * c + 36 * l + 9 * r + s))), (6, (0, bt)), (7, (0, d)), (8, (0, nx)), (9, (1, (bn + pv)))] (List.forall_mem_cons.mpr ⟨rfl, List.forall_mem_cons.mpr ⟨rfl, List.forall_mem_cons.mpr ⟨rfl, List.forall_mem_cons.mpr ⟨rfl, List.forall_mem_cons.mpr ⟨rfl, List.forall_mem_cons.mpr ⟨rfl, List.forall_mem_cons.mpr ⟨rfl, List.forall_mem_cons.mpr ⟨rfl, List.forall_mem_cons.mpr ⟨rfl, List.forall_mem_cons.mpr ⟨rfl, fun _ h => absurd h List.not_mem_nil⟩⟩⟩⟩⟩⟩⟩⟩⟩⟩) ?_
            refine cut49 (0) ?_
            · unfold dtF
              split <;> omega
          · skip
            refine hd_iload pkX12_look rfl rfl ?_
            refine hd_iload pkX12_look rfl rfl ?_
            refine hd_ic_ne pkX12_look rfl (fun c28 => ?_) (fun c28 => ?_)
            · skip
              refine hd_ipush (z := 1) pkX12_look rfl ?_
              refine m_sub [(0, (2, ((2449 : Nat) : Int))), (1, (0, c)), (2, (0, l)), (3, (0, r)), (4, (0, s)), (5, (0, (612 * c + 36 * l + 9 * r + s))), (6, (0, bt)), (7, (0, d)), (8, (0, nx)), (9, (1, (bn + pv)))] (List.forall_mem_cons.mpr ⟨rfl, List.forall_mem_cons.mpr ⟨rfl, List.forall_mem_cons.mpr ⟨rfl, List.forall_mem_cons.mpr ⟨rfl, List.forall_mem_cons.mpr ⟨rfl, List.forall_mem_cons.mpr ⟨rfl, List.forall_mem_cons.mpr ⟨rfl, List.forall_mem_cons.mpr ⟨rfl, List.forall_mem_cons.mpr ⟨rfl, List.forall_mem_cons.mpr ⟨rfl, fun _ h => absurd h List.not_mem_nil⟩⟩⟩⟩⟩⟩⟩⟩⟩⟩) ?_
              refine cut49 (1) ?_
              · unfold dtF
                split <;> omega
            · skip
              refine hd_ipush (z := 0) pkX12_look rfl ?_
              refine hd_goto pkX12_look rfl ?_
              refine m_sub [(0, (2, ((2449 : Nat) : Int))), (1, (0, c)), (2, (0, l)), (3, (0, r)), (4, (0, s)), (5, (0, (612 * c + 36 * l + 9 * r + s))), (6, (0, bt)), (7, (0, d)), (8, (0, nx)), (9, (1, (bn + pv)))] (List.forall_mem_cons.mpr ⟨rfl, List.forall_mem_cons.mpr ⟨rfl, List.forall_mem_cons.mpr ⟨rfl, List.forall_mem_cons.mpr ⟨rfl, List.forall_mem_cons.mpr ⟨rfl, List.forall_mem_cons.mpr ⟨rfl, List.forall_mem_cons.mpr ⟨rfl, List.forall_mem_cons.mpr ⟨rfl, List.forall_mem_cons.mpr ⟨rfl, List.forall_mem_cons.mpr ⟨rfl, fun _ h => absurd h List.not_mem_nil⟩⟩⟩⟩⟩⟩⟩⟩⟩⟩) ?_
              refine cut49 (0) ?_
              · unfold dtF
                split <;> omega
  refine m_sub [(0, (2, ((2449 : Nat) : Int))), (1, (0, c)), (2, (0, l)), (3, (0, r)), (4, (0, s)), (5, (0, (612 * c + 36 * l + 9 * r + s))), (6, (0, 0)), (7, (0, 0))] (List.forall_mem_cons.mpr ⟨rfl, List.forall_mem_cons.mpr ⟨rfl, List.forall_mem_cons.mpr ⟨rfl, List.forall_mem_cons.mpr ⟨rfl, List.forall_mem_cons.mpr ⟨rfl, List.forall_mem_cons.mpr ⟨rfl, List.forall_mem_cons.mpr ⟨rfl, List.forall_mem_cons.mpr ⟨rfl, fun _ h => absurd h List.not_mem_nil⟩⟩⟩⟩⟩⟩⟩⟩) ?_
  refine lp10 (((16 : Int) - (0)) + 1).toNat (0) (0) h g ?_ ?_ ?_ ?_ ?_ ?_
  · exact Only.refl _ _
  · exact ok
  · exact bd0
  · omega
  · exact Or.inl ⟨rfl, rfl, fun x x0 x1 => by omega⟩
  · omega
