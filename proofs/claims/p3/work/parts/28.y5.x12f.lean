/-! X12 by hand: its methods -/
set_option maxRecDepth 20000 in
set_option maxHeartbeats 8000000 in
theorem h_X12_findAll {h : MH} (s12 : Set12 h) (bd0 : BD12 h) (g : Str t12c r12c h) : MCal KX12_findAll yX12_findAll 0 0 [(2, ((2449 : Nat) : Int))] h (mRV fun h' => Only [2460, 2461, 2462, 2463] h h' ∧ OkH h h' ∧ FxH h h' ∧ BD12 h') := by
  refine MCal.ofMW (Or.inl rfl) ⟨cp_X12, rfl⟩ (Nat.le_of_ble_eq_true rfl) ?_
  generalize eQ : (mRV fun h' => Only [2460, 2461, 2462, 2463] h h' ∧ OkH h h' ∧ FxH h h' ∧ BD12 h' : MO → MH → Prop) = Q
  change MW KX12_findAll Q 0 0 (pcA pgX12_findAll 0) [(0, (2, ((2449 : Nat) : Int)))] [] h
  obtain ⟨go, ego⟩ : ∃ x : Int, x = ga h 2449 21 := ⟨_, rfl⟩
  obtain ⟨fi, efi⟩ : ∃ x : Int, x = ga h 2449 20 := ⟨_, rfl⟩
  obtain ⟨mo, emo⟩ : ∃ x : Int, x = ga h 2449 22 := ⟨_, rfl⟩
  have gb := s12.2.2.2.2.2.1
  have fb := s12.2.2.2.2.1
  have mb := s12.2.2.2.2.2.2.1
  refine hd_ipush (z := 0) pkX12_findAll rfl ?_
  refine hd_istore pkX12_findAll rfl rfl ?_
  change MW _ _ _ _ _ [(1, (0, 0)), (0, (2, ((2449 : Nat) : Int)))] _ _
  have lp2 : ∀ (N2 : Nat) (k : Int) (hA : MH), Str t12c r12c hA → (Only [2460, 2461, 2462, 2463] h hA) → (BD12 hA) → (0 ≤ k ∧ k ≤ 88128) → (∀ j : Int, 0 ≤ j → j < k → ga hA 2463 j = 0) → (88128 : Int) - k < (N2 : Int) → MW KX12_findAll Q 0 0 (pcA pgX12_findAll 2) [(0, (2, ((2449 : Nat) : Int))), (1, (0, k))] [] hA := by
    intro N2
    induction N2 with
    | zero => intro k hA g2 hO bd k0 z hm2; exfalso; omega
    | succ N2 ih2 =>
      intro k hA g2 hO bd k0 z hm2
      refine hd_iload pkX12_findAll rfl rfl ?_
      refine hd_ipush (z := 88128) pkX12_findAll rfl ?_
      refine hd_ic_ge pkX12_findAll rfl (fun c1 => ?_) (fun c1 => ?_)
      · skip
        refine hd_ipush (z := 0) pkX12_findAll rfl ?_
        refine hd_istore pkX12_findAll rfl rfl ?_
        change MW _ _ _ _ _ [(1, (0, 0)), (0, (2, ((2449 : Nat) : Int)))] _ _
        have lp14 : ∀ (N14 : Nat) (k : Int) (hB : MH), Str t12c r12c hB → (Only [2460, 2461, 2462, 2463] h hB) → (BD12 hB) → (0 ≤ k ∧ k ≤ 16) → (OkH h hB ∧ ∀ j : Int, 0 ≤ j → j < 88128 → ga hB 2463 j ≠ 0 → ga hB 2460 j = 0 ∧ ga hB 2461 j = 0 ∧ ga hB 2462 j = 0 ∧ j / 36 % 17 < 16) → (16 : Int) - k < (N14 : Int) → MW KX12_findAll Q 0 0 (pcA pgX12_findAll 14) [(0, (2, ((2449 : Nat) : Int))), (1, (0, k))] [] hB := by
          intro N14
          induction N14 with
          | zero => intro k hB g14 hO bd k0 okz hm14; exfalso; omega
          | succ N14 ih14 =>
            intro k hB g14 hO bd k0 okz hm14
            have sX := ((SM12.refl h).only hO (by decide)).s s12
            refine hd_iload pkX12_findAll rfl rfl ?_
            refine hd_ipush (z := 16) pkX12_findAll rfl ?_
            refine hd_ic_ge pkX12_findAll rfl (fun c2 => ?_) (fun c2 => ?_)
            · skip
              refine hd_ipush (z := 1) pkX12_findAll rfl ?_
              refine hd_istore pkX12_findAll rfl rfl ?_
              change MW _ _ _ _ _ [(1, (0, 1)), (0, (2, ((2449 : Nat) : Int)))] _ _
              have lp52 : ∀ (N52 : Nat) (m : Int) (hW : MH), Str t12c r12c hW → (Only [2460, 2461, 2462, 2463] h hW) → (BD12 hW) → (OkH h hW) → (m = 1 ∨ (m = 0 ∧ FxH h hW)) → 2 * muH hW + m < (N52 : Int) → MW KX12_findAll Q 0 0 (pcA pgX12_findAll 52) [(0, (2, ((2449 : Nat) : Int))), (1, (0, m))] [] hW := by
                intro N52
                induction N52 with
                | zero => intro m hW g52 hO bd okL mm hm52; exfalso; have := okL.mu0 (ed12_b s12) (n := 88128) rfl; unfold muH at hm52; omega
                | succ N52 ih52 =>
                  intro m hW g52 hO bd okL mm hm52
                  have sX := ((SM12.refl h).only hO (by decide)).s s12
                  refine hd_iload pkX12_findAll rfl rfl ?_
                  refine hd_if_eq pkX12_findAll rfl (fun c3 => ?_) (fun c3 => ?_)
                  · skip
                    refine hd_vret pkX12_findAll rfl ?_
                    subst eQ
                    exact ⟨rfl, hO, okL, (mm.resolve_left (by omega)).2, bd⟩
                  · skip
                    refine hd_ipush (z := 0) pkX12_findAll rfl ?_
                    refine hd_istore pkX12_findAll rfl rfl ?_
                    change MW _ _ _ _ _ [(1, (0, 0)), (0, (2, ((2449 : Nat) : Int)))] _ _
                    refine hd_ipush (z := 0) pkX12_findAll rfl ?_
                    refine hd_istore pkX12_findAll rfl rfl ?_
                    change MW _ _ _ _ _ [(2, (0, 0)), (1, (0, 0)), (0, (2, ((2449 : Nat) : Int)))] _ _
                    have lp58 : ∀ (N58 : Nat) (m c : Int) (hc58 : MH), Str t12c r12c hc58 → (Only [2460, 2461, 2462, 2463] h hc58) → (BD12 hc58) → (OkH h hc58) → (0 ≤ c ∧ c ≤ 144) → (PG12 m hc58 hW (Dn12 h hW c 0 0 0)) → (144 : Int) - c < (N58 : Int) → MW KX12_findAll Q 0 0 (pcA pgX12_findAll 58) [(0, (2, ((2449 : Nat) : Int))), (1, (0, m)), (2, (0, c))] [] hc58 := by
                      intro N58
                      induction N58 with
                      | zero => intro m c hc58 g58 hO bd okL c0 pg hm58; exfalso; omega
                      | succ N58 ih58 =>
                        intro m c hc58 g58 hO bd okL c0 pg hm58
                        have sX := ((SM12.refl h).only hO (by decide)).s s12
                        have sS := (SM12.refl h).only hO (by decide)
                        refine hd_iload pkX12_findAll rfl rfl ?_
                        refine hd_aload pkX12_findAll rfl rfl (Int.natCast_nonneg _) ?_
                        refine hd_getI pkX12_findAll rfl (g58.cell 0 rfl).1 (g58.cell 0 rfl).2.1 (fun v4 ev4 rv4 => ?_)
                        replace ev4 : v4 = ga hc58 2449 0 := ev4
                        have qv4 : (12 : Int) = v4 := by rw [ev4]; exact sX.1.1.symm
                        subst qv4
                        refine hd_aload pkX12_findAll rfl rfl (Int.natCast_nonneg _) ?_
                        refine hd_getI pkX12_findAll rfl (g58.cell 0 rfl).1 (g58.cell 0 rfl).2.1 (fun v5 ev5 rv5 => ?_)
                        replace ev5 : v5 = ga hc58 2449 1 := ev5
                        have qv5 : (12 : Int) = v5 := by rw [ev5]; exact sX.1.2.symm
                        subst qv5
                        refine hd_imul pkX12_findAll rfl (by omega) ?_
                        refine hd_ic_ge pkX12_findAll rfl (fun c6 => ?_) (fun c6 => ?_)
                        · skip
                          refine hd_goto pkX12_findAll rfl ?_
                          refine m_sub [(0, (2, ((2449 : Nat) : Int))), (1, (0, m))] (List.forall_mem_cons.mpr ⟨rfl, List.forall_mem_cons.mpr ⟨rfl, fun _ h => absurd h List.not_mem_nil⟩⟩) ?_
                          refine ih52  (m) hc58 g58 ?_ ?_ ?_ ?_ ?_
                          · exact hO
                          · exact bd
                          · exact okL
                          · rcases pg with ⟨w, e, D⟩ | ⟨w, e⟩
                            · exact Or.inr ⟨w, e ▸ D.fx (by omega)⟩
                            · exact Or.inl w
                          · rcases pg with ⟨w, e, D⟩ | ⟨w, e⟩ <;> first | (rw [e]; omega) | omega
                        · skip
                          refine hd_ipush (z := 0) pkX12_findAll rfl ?_
                          refine hd_istore pkX12_findAll rfl rfl ?_
                          change MW _ _ _ _ _ [(3, (0, 0)), (0, (2, ((2449 : Nat) : Int))), (1, (0, m)), (2, (0, c))] _ _
                          have lp67 : ∀ (N67 : Nat) (m l : Int) (hc67 : MH), Str t12c r12c hc67 → (Only [2460, 2461, 2462, 2463] h hc67) → (BD12 hc67) → (OkH h hc67) → (0 ≤ l ∧ l ≤ 17) → (PG12 m hc67 hW (Dn12 h hW c l 0 0)) → (17 : Int) - l < (N67 : Int) → MW KX12_findAll Q 0 0 (pcA pgX12_findAll 67) [(0, (2, ((2449 : Nat) : Int))), (1, (0, m)), (2, (0, c)), (3, (0, l))] [] hc67 := by
                            intro N67
                            induction N67 with
                            | zero => intro m l hc67 g67 hO bd okL l0 pg hm67; exfalso; omega
                            | succ N67 ih67 =>
                              intro m l hc67 g67 hO bd okL l0 pg hm67
                              have sX := ((SM12.refl h).only hO (by decide)).s s12
                              have sS := (SM12.refl h).only hO (by decide)
                              refine hd_iload pkX12_findAll rfl rfl ?_
                              refine hd_ipush (z := 16) pkX12_findAll rfl ?_
                              refine hd_ic_gt pkX12_findAll rfl (fun c7 => ?_) (fun c7 => ?_)
                              · skip
                                refine hd_iinc (z := 1) pkX12_findAll rfl rfl (by omega) rfl ?_
                                change MW _ _ _ _ _ [(2, (0, (c + 1))), (0, (2, ((2449 : Nat) : Int))), (1, (0, m)), (3, (0, l))] _ _
                                refine hd_goto pkX12_findAll rfl ?_
                                refine m_sub [(0, (2, ((2449 : Nat) : Int))), (1, (0, m)), (2, (0, (c + 1)))] (List.forall_mem_cons.mpr ⟨rfl, List.forall_mem_cons.mpr ⟨rfl, List.forall_mem_cons.mpr ⟨rfl, fun _ h => absurd h List.not_mem_nil⟩⟩⟩) ?_
                                refine ih58  (m) ((c + 1)) hc67 g67 ?_ ?_ ?_ ?_ ?_ ?_
                                · exact hO
                                · exact bd
                                · exact okL
                                · omega
                                · exact pg.imp fun D => D.c fun l' r' s' q => by have := q.2.1; omega
                                · omega
                              · skip
                                refine hd_iload pkX12_findAll rfl rfl ?_
                                refine hd_ipush (z := 16) pkX12_findAll rfl ?_
                                refine hd_ic_ne pkX12_findAll rfl (fun c8 => ?_) (fun c8 => ?_)
                                · skip
                                  refine hd_aload pkX12_findAll rfl rfl (Int.natCast_nonneg _) ?_
                                  refine hd_iload pkX12_findAll rfl rfl ?_
                                  refine hd_callV pkX12_findAll rfl (q := (KX12_isHeading, yX12_isHeading, 12, 1, 0)) rfl rfl rfl (As := [(0, l)]) (rest := []) (c := 2449) rfl rfl (Nat.le_of_ble_eq_true rfl) (g67.cell 0 rfl).1 (g67.cell 0 rfl).2.1 (h_X12_isHeading ⟨by omega, by omega⟩ g67) (hd_bI (fun w9 hc10 ph2 => ?_))
                                  obtain ⟨ph2, ehc10⟩ := ph2
                                  replace ehc10 := ehc10.symm
                                  subst ehc10
                                  refine hd_if_eq pkX12_findAll rfl (fun c11 => ?_) (fun c11 => ?_)
                                  · skip
                                    have xh := ph2.f c11
                                    rw [sS.hd] at xh
                                    refine hd_iinc (z := 1) pkX12_findAll rfl rfl (by omega) rfl ?_
                                    change MW _ _ _ _ _ [(3, (0, (l + 1))), (0, (2, ((2449 : Nat) : Int))), (1, (0, m)), (2, (0, c))] _ _
                                    refine hd_goto pkX12_findAll rfl ?_
                                    refine m_sub [(0, (2, ((2449 : Nat) : Int))), (1, (0, m)), (2, (0, c)), (3, (0, (l + 1)))] (List.forall_mem_cons.mpr ⟨rfl, List.forall_mem_cons.mpr ⟨rfl, List.forall_mem_cons.mpr ⟨rfl, List.forall_mem_cons.mpr ⟨rfl, fun _ h => absurd h List.not_mem_nil⟩⟩⟩⟩) ?_
                                    refine ih67  (m) ((l + 1)) hc67 g67 ?_ ?_ ?_ ?_ ?_ ?_
                                    · exact hO
                                    · exact bd
                                    · exact okL
                                    · omega
                                    · exact pg.imp fun D => D.l fun r' s' q => by
                                        exfalso
                                        exact xh (q.2.2.2.2.2.2.1 (by omega))
                                    · omega
                                  · skip
                                    refine hd_ipush (z := 0) pkX12_findAll rfl ?_
                                    refine hd_istore pkX12_findAll rfl rfl ?_
                                    change MW _ _ _ _ _ [(4, (0, 0)), (0, (2, ((2449 : Nat) : Int))), (1, (0, m)), (2, (0, c)), (3, (0, l))] _ _
                                    have lp84 : ∀ (N84 : Nat) (m r : Int) (hc84 : MH), Str t12c r12c hc84 → (Only [2460, 2461, 2462, 2463] h hc84) → (BD12 hc84) → (OkH h hc84) → (0 ≤ r ∧ r ≤ 4) → (PG12 m hc84 hW (Dn12 h hW c l r 0)) → (4 : Int) - r < (N84 : Int) → MW KX12_findAll Q 0 0 (pcA pgX12_findAll 84) [(0, (2, ((2449 : Nat) : Int))), (1, (0, m)), (2, (0, c)), (3, (0, l)), (4, (0, r))] [] hc84 := by
                                      intro N84
                                      induction N84 with
                                      | zero => intro m r hc84 g84 hO bd okL r0 pg hm84; exfalso; omega
                                      | succ N84 ih84 =>
                                        intro m r hc84 g84 hO bd okL r0 pg hm84
                                        have sX := ((SM12.refl h).only hO (by decide)).s s12
                                        have sS := (SM12.refl h).only hO (by decide)
                                        refine hd_iload pkX12_findAll rfl rfl ?_
                                        refine hd_ipush (z := 4) pkX12_findAll rfl ?_
                                        refine hd_ic_ge pkX12_findAll rfl (fun c12 => ?_) (fun c12 => ?_)
                                        · skip
                                          refine hd_iinc (z := 1) pkX12_findAll rfl rfl (by omega) rfl ?_
                                          change MW _ _ _ _ _ [(3, (0, (l + 1))), (0, (2, ((2449 : Nat) : Int))), (1, (0, m)), (2, (0, c)), (4, (0, r))] _ _
                                          refine hd_goto pkX12_findAll rfl ?_
                                          refine m_sub [(0, (2, ((2449 : Nat) : Int))), (1, (0, m)), (2, (0, c)), (3, (0, (l + 1)))] (List.forall_mem_cons.mpr ⟨rfl, List.forall_mem_cons.mpr ⟨rfl, List.forall_mem_cons.mpr ⟨rfl, List.forall_mem_cons.mpr ⟨rfl, fun _ h => absurd h List.not_mem_nil⟩⟩⟩⟩) ?_
                                          refine ih67  (m) ((l + 1)) hc84 g84 ?_ ?_ ?_ ?_ ?_ ?_
                                          · exact hO
                                          · exact bd
                                          · exact okL
                                          · omega
                                          · exact pg.imp fun D => D.l fun r' s' q => by have := q.2.2.1; omega
                                          · omega
                                        · skip
                                          refine hd_ipush (z := 0) pkX12_findAll rfl ?_
                                          refine hd_istore pkX12_findAll rfl rfl ?_
                                          change MW _ _ _ _ _ [(5, (0, 0)), (0, (2, ((2449 : Nat) : Int))), (1, (0, m)), (2, (0, c)), (3, (0, l)), (4, (0, r))] _ _
                                          have lp89 : ∀ (N89 : Nat) (m s : Int) (hc89 : MH), Str t12c r12c hc89 → (Only [2460, 2461, 2462, 2463] h hc89) → (BD12 hc89) → (OkH h hc89) → (0 ≤ s ∧ s ≤ 9) → (PG12 m hc89 hW (Dn12 h hW c l r s)) → (9 : Int) - s < (N89 : Int) → MW KX12_findAll Q 0 0 (pcA pgX12_findAll 89) [(0, (2, ((2449 : Nat) : Int))), (1, (0, m)), (2, (0, c)), (3, (0, l)), (4, (0, r)), (5, (0, s))] [] hc89 := by
                                            intro N89
                                            induction N89 with
                                            | zero => intro m s hc89 g89 hO bd okL s0 pg hm89; exfalso; omega
                                            | succ N89 ih89 =>
                                              intro m s hc89 g89 hO bd okL s0 pg hm89
                                              have sX := ((SM12.refl h).only hO (by decide)).s s12
                                              have sS := (SM12.refl h).only hO (by decide)
                                              refine hd_iload pkX12_findAll rfl rfl ?_
                                              refine hd_aload pkX12_findAll rfl rfl (Int.natCast_nonneg _) ?_
                                              refine hd_getI pkX12_findAll rfl (g89.cell 0 rfl).1 (g89.cell 0 rfl).2.1 (fun v13 ev13 rv13 => ?_)
                                              replace ev13 : v13 = ga hc89 2449 22 := ev13
                                              have qv13 : mo = v13 := by rw [ev13, hO.ga (by decide)]; exact emo
                                              subst qv13
                                              refine hd_ic_gt pkX12_findAll rfl (fun c14 => ?_) (fun c14 => ?_)
                                              · skip
                                                refine hd_iinc (z := 1) pkX12_findAll rfl rfl (by omega) rfl ?_
                                                change MW _ _ _ _ _ [(4, (0, (r + 1))), (0, (2, ((2449 : Nat) : Int))), (1, (0, m)), (2, (0, c)), (3, (0, l)), (5, (0, s))] _ _
                                                refine hd_goto pkX12_findAll rfl ?_
                                                refine m_sub [(0, (2, ((2449 : Nat) : Int))), (1, (0, m)), (2, (0, c)), (3, (0, l)), (4, (0, (r + 1)))] (List.forall_mem_cons.mpr ⟨rfl, List.forall_mem_cons.mpr ⟨rfl, List.forall_mem_cons.mpr ⟨rfl, List.forall_mem_cons.mpr ⟨rfl, List.forall_mem_cons.mpr ⟨rfl, fun _ h => absurd h List.not_mem_nil⟩⟩⟩⟩⟩) ?_
                                                refine ih84  (m) ((r + 1)) hc89 g89 ?_ ?_ ?_ ?_ ?_ ?_
                                                · exact hO
                                                · exact bd
                                                · exact okL
                                                · omega
                                                · exact pg.imp fun D => D.r fun s' q => by have := q.2.2.2.2.1; omega
                                                · omega
                                              · skip
                                                refine hd_aload pkX12_findAll rfl rfl (Int.natCast_nonneg _) ?_
                                                refine hd_iload pkX12_findAll rfl rfl ?_
                                                refine hd_iload pkX12_findAll rfl rfl ?_
                                                refine hd_callV pkX12_findAll rfl (q := (KX12_isRun, yX12_isRun, 12, 2, 0)) rfl rfl rfl (As := [(0, c), (0, r)]) (rest := []) (c := 2449) rfl rfl (Nat.le_of_ble_eq_true rfl) (g89.cell 0 rfl).1 (g89.cell 0 rfl).2.1 (h_X12_isRun ⟨by omega, by omega⟩ g89) (hd_bI (fun w15 hc16 pr => ?_))
                                                obtain ⟨pr, ehc16⟩ := pr
                                                replace ehc16 := ehc16.symm
                                                subst ehc16
                                                refine hd_if_eq pkX12_findAll rfl (fun c17 => ?_) (fun c17 => ?_)
                                                · skip
                                                  have xr := pr.f c17
                                                  rw [sS.rn] at xr
                                                  refine hd_iinc (z := 1) pkX12_findAll rfl rfl (by omega) rfl ?_
                                                  change MW _ _ _ _ _ [(4, (0, (r + 1))), (0, (2, ((2449 : Nat) : Int))), (1, (0, m)), (2, (0, c)), (3, (0, l)), (5, (0, s))] _ _
                                                  refine hd_goto pkX12_findAll rfl ?_
                                                  refine m_sub [(0, (2, ((2449 : Nat) : Int))), (1, (0, m)), (2, (0, c)), (3, (0, l)), (4, (0, (r + 1)))] (List.forall_mem_cons.mpr ⟨rfl, List.forall_mem_cons.mpr ⟨rfl, List.forall_mem_cons.mpr ⟨rfl, List.forall_mem_cons.mpr ⟨rfl, List.forall_mem_cons.mpr ⟨rfl, fun _ h => absurd h List.not_mem_nil⟩⟩⟩⟩⟩) ?_
                                                  refine ih84  (m) ((r + 1)) hc89 g89 ?_ ?_ ?_ ?_ ?_ ?_
                                                  · exact hO
                                                  · exact bd
                                                  · exact okL
                                                  · omega
                                                  · exact pg.imp fun D => D.r fun s' q => (xr q.2.2.2.2.2.2.2).elim
                                                  · omega
                                                · skip
                                                  refine hd_aload pkX12_findAll rfl rfl (Int.natCast_nonneg _) ?_
                                                  refine hd_iload pkX12_findAll rfl rfl ?_
                                                  refine hd_iload pkX12_findAll rfl rfl ?_
                                                  refine hd_iload pkX12_findAll rfl rfl ?_
                                                  refine hd_iload pkX12_findAll rfl rfl ?_
                                                  refine hd_callV pkX12_findAll rfl (q := (KX12_look, yX12_look, 12, 4, 0)) rfl rfl rfl (As := [(0, c), (0, l), (0, r), (0, s)]) (rest := []) (c := 2449) rfl rfl (Nat.le_of_ble_eq_true rfl) (g89.cell 0 rfl).1 (g89.cell 0 rfl).2.1 (h_X12_look (σ := h) sS s12 okL bd ⟨by omega, by omega⟩ ⟨by omega, by omega⟩ ⟨by omega, by omega⟩ ⟨by omega, by omega⟩ g89) (hd_bI (fun w18 hc19 pl => ?_))
                                                  have ghc19 : Str t12c r12c hc19 := g89.only pl.1 (by decide)
                                                  refine hd_if_ne pkX12_findAll rfl (fun c20 => ?_) (fun c20 => ?_)
                                                  · skip
                                                    refine hd_ipush (z := 1) pkX12_findAll rfl ?_
                                                    refine hd_goto pkX12_findAll rfl ?_
                                                    refine hd_istore pkX12_findAll rfl rfl ?_
                                                    change MW _ _ _ _ _ [(1, (0, 1)), (0, (2, ((2449 : Nat) : Int))), (2, (0, c)), (3, (0, l)), (4, (0, r)), (5, (0, s))] _ _
                                                    refine hd_iinc (z := 1) pkX12_findAll rfl rfl (by omega) rfl ?_
                                                    change MW _ _ _ _ _ [(5, (0, (s + 1))), (1, (0, 1)), (0, (2, ((2449 : Nat) : Int))), (2, (0, c)), (3, (0, l)), (4, (0, r))] _ _
                                                    refine hd_goto pkX12_findAll rfl ?_
                                                    refine m_sub [(0, (2, ((2449 : Nat) : Int))), (1, (0, 1)), (2, (0, c)), (3, (0, l)), (4, (0, r)), (5, (0, (s + 1)))] (List.forall_mem_cons.mpr ⟨rfl, List.forall_mem_cons.mpr ⟨rfl, List.forall_mem_cons.mpr ⟨rfl, List.forall_mem_cons.mpr ⟨rfl, List.forall_mem_cons.mpr ⟨rfl, List.forall_mem_cons.mpr ⟨rfl, fun _ h => absurd h List.not_mem_nil⟩⟩⟩⟩⟩⟩) ?_
                                                    refine ih89  (1) ((s + 1)) hc19 ghc19 ?_ ?_ ?_ ?_ ?_ ?_
                                                    · exact hO.trans pl.1
                                                    · exact pl.2.2.1
                                                    · exact pl.2.1
                                                    · omega
                                                    · rcases pl.2.2.2 with ⟨w, _⟩ | ⟨_, w⟩
                                                      · omega
                                                      · exact pg.up w
                                                    · omega
                                                  · skip
                                                    refine hd_iload pkX12_findAll rfl rfl ?_
                                                    refine hd_if_eq pkX12_findAll rfl (fun c21 => ?_) (fun c21 => ?_)
                                                    · skip
                                                      refine hd_ipush (z := 0) pkX12_findAll rfl ?_
                                                      refine hd_istore pkX12_findAll rfl rfl ?_
                                                      change MW _ _ _ _ _ [(1, (0, 0)), (0, (2, ((2449 : Nat) : Int))), (2, (0, c)), (3, (0, l)), (4, (0, r)), (5, (0, s))] _ _
                                                      refine hd_iinc (z := 1) pkX12_findAll rfl rfl (by omega) rfl ?_
                                                      change MW _ _ _ _ _ [(5, (0, (s + 1))), (1, (0, 0)), (0, (2, ((2449 : Nat) : Int))), (2, (0, c)), (3, (0, l)), (4, (0, r))] _ _
                                                      refine hd_goto pkX12_findAll rfl ?_
                                                      refine m_sub [(0, (2, ((2449 : Nat) : Int))), (1, (0, 0)), (2, (0, c)), (3, (0, l)), (4, (0, r)), (5, (0, (s + 1)))] (List.forall_mem_cons.mpr ⟨rfl, List.forall_mem_cons.mpr ⟨rfl, List.forall_mem_cons.mpr ⟨rfl, List.forall_mem_cons.mpr ⟨rfl, List.forall_mem_cons.mpr ⟨rfl, List.forall_mem_cons.mpr ⟨rfl, fun _ h => absurd h List.not_mem_nil⟩⟩⟩⟩⟩⟩) ?_
                                                      refine ih89  (0) ((s + 1)) hc19 ghc19 ?_ ?_ ?_ ?_ ?_ ?_
                                                      · exact hO.trans pl.1
                                                      · exact pl.2.2.1
                                                      · exact pl.2.1
                                                      · omega
                                                      · rcases pl.2.2.2 with ⟨_, e, f⟩ | ⟨v, _⟩
                                                        · rcases pg with ⟨_, e2, D⟩ | ⟨w, _⟩
                                                          · exact Or.inl ⟨rfl, e.trans e2, D.s (e2 ▸ f)⟩
                                                          · omega
                                                        · omega
                                                      · omega
                                                    · skip
                                                      refine hd_ipush (z := 1) pkX12_findAll rfl ?_
                                                      refine hd_goto pkX12_findAll rfl ?_
                                                      refine hd_istore pkX12_findAll rfl rfl ?_
                                                      change MW _ _ _ _ _ [(1, (0, 1)), (0, (2, ((2449 : Nat) : Int))), (2, (0, c)), (3, (0, l)), (4, (0, r)), (5, (0, s))] _ _
                                                      refine hd_iinc (z := 1) pkX12_findAll rfl rfl (by omega) rfl ?_
                                                      change MW _ _ _ _ _ [(5, (0, (s + 1))), (1, (0, 1)), (0, (2, ((2449 : Nat) : Int))), (2, (0, c)), (3, (0, l)), (4, (0, r))] _ _
                                                      refine hd_goto pkX12_findAll rfl ?_
                                                      refine m_sub [(0, (2, ((2449 : Nat) : Int))), (1, (0, 1)), (2, (0, c)), (3, (0, l)), (4, (0, r)), (5, (0, (s + 1)))] (List.forall_mem_cons.mpr ⟨rfl, List.forall_mem_cons.mpr ⟨rfl, List.forall_mem_cons.mpr ⟨rfl, List.forall_mem_cons.mpr ⟨rfl, List.forall_mem_cons.mpr ⟨rfl, List.forall_mem_cons.mpr ⟨rfl, fun _ h => absurd h List.not_mem_nil⟩⟩⟩⟩⟩⟩) ?_
                                                      refine ih89  (1) ((s + 1)) hc19 ghc19 ?_ ?_ ?_ ?_ ?_ ?_
                                                      · exact hO.trans pl.1
                                                      · exact pl.2.2.1
                                                      · exact pl.2.1
                                                      · omega
                                                      · rcases pg with ⟨w, _⟩ | ⟨_, w⟩
                                                        · omega
                                                        · rcases pl.2.2.2 with ⟨_, e, _⟩ | ⟨v, _⟩
                                                          · exact Or.inr ⟨rfl, by rw [e]; exact w⟩
                                                          · omega
                                                      · omega
                                          refine m_sub [(0, (2, ((2449 : Nat) : Int))), (1, (0, m)), (2, (0, c)), (3, (0, l)), (4, (0, r)), (5, (0, 0))] (List.forall_mem_cons.mpr ⟨rfl, List.forall_mem_cons.mpr ⟨rfl, List.forall_mem_cons.mpr ⟨rfl, List.forall_mem_cons.mpr ⟨rfl, List.forall_mem_cons.mpr ⟨rfl, List.forall_mem_cons.mpr ⟨rfl, fun _ h => absurd h List.not_mem_nil⟩⟩⟩⟩⟩⟩) ?_
                                          refine lp89 (((9 : Int) - (0)) + 1).toNat (m) (0) hc84 g84 ?_ ?_ ?_ ?_ ?_ ?_
                                          · exact hO
                                          · exact bd
                                          · exact okL
                                          · omega
                                          · exact pg
                                          · omega
                                    refine m_sub [(0, (2, ((2449 : Nat) : Int))), (1, (0, m)), (2, (0, c)), (3, (0, l)), (4, (0, 0))] (List.forall_mem_cons.mpr ⟨rfl, List.forall_mem_cons.mpr ⟨rfl, List.forall_mem_cons.mpr ⟨rfl, List.forall_mem_cons.mpr ⟨rfl, List.forall_mem_cons.mpr ⟨rfl, fun _ h => absurd h List.not_mem_nil⟩⟩⟩⟩⟩) ?_
                                    refine lp84 (((4 : Int) - (0)) + 1).toNat (m) (0) hc67 g67 ?_ ?_ ?_ ?_ ?_ ?_
                                    · exact hO
                                    · exact bd
                                    · exact okL
                                    · omega
                                    · exact pg
                                    · omega
                                · skip
                                  refine hd_iload pkX12_findAll rfl rfl ?_
                                  refine hd_aload pkX12_findAll rfl rfl (Int.natCast_nonneg _) ?_
                                  refine hd_getI pkX12_findAll rfl (g67.cell 0 rfl).1 (g67.cell 0 rfl).2.1 (fun v22 ev22 rv22 => ?_)
                                  replace ev22 : v22 = ga hc67 2449 20 := ev22
                                  have qv22 : fi = v22 := by rw [ev22, hO.ga (by decide)]; exact efi
                                  subst qv22
                                  refine hd_ic_ne pkX12_findAll rfl (fun c23 => ?_) (fun c23 => ?_)
                                  · skip
                                    refine hd_iinc (z := 1) pkX12_findAll rfl rfl (by omega) rfl ?_
                                    change MW _ _ _ _ _ [(3, (0, (l + 1))), (0, (2, ((2449 : Nat) : Int))), (1, (0, m)), (2, (0, c))] _ _
                                    refine hd_goto pkX12_findAll rfl ?_
                                    refine m_sub [(0, (2, ((2449 : Nat) : Int))), (1, (0, m)), (2, (0, c)), (3, (0, (l + 1)))] (List.forall_mem_cons.mpr ⟨rfl, List.forall_mem_cons.mpr ⟨rfl, List.forall_mem_cons.mpr ⟨rfl, List.forall_mem_cons.mpr ⟨rfl, fun _ h => absurd h List.not_mem_nil⟩⟩⟩⟩) ?_
                                    refine ih67  (m) ((l + 1)) hc67 g67 ?_ ?_ ?_ ?_ ?_ ?_
                                    · exact hO
                                    · exact bd
                                    · exact okL
                                    · omega
                                    · exact pg.imp fun D => D.l fun r' s' q => by
                                        exfalso
                                        have q6 := q.2.2.2.2.2.1
                                        omega
                                    · omega
                                  · skip
                                    refine hd_goto pkX12_findAll rfl ?_
                                    refine hd_ipush (z := 0) pkX12_findAll rfl ?_
                                    refine hd_istore pkX12_findAll rfl rfl ?_
                                    change MW _ _ _ _ _ [(4, (0, 0)), (0, (2, ((2449 : Nat) : Int))), (1, (0, m)), (2, (0, c)), (3, (0, l))] _ _
                                    have lp84 : ∀ (N84 : Nat) (m r : Int) (hc84 : MH), Str t12c r12c hc84 → (Only [2460, 2461, 2462, 2463] h hc84) → (BD12 hc84) → (OkH h hc84) → (0 ≤ r ∧ r ≤ 4) → (PG12 m hc84 hW (Dn12 h hW c l r 0)) → (4 : Int) - r < (N84 : Int) → MW KX12_findAll Q 0 0 (pcA pgX12_findAll 84) [(0, (2, ((2449 : Nat) : Int))), (1, (0, m)), (2, (0, c)), (3, (0, l)), (4, (0, r))] [] hc84 := by
                                      intro N84
                                      induction N84 with
                                      | zero => intro m r hc84 g84 hO bd okL r0 pg hm84; exfalso; omega
                                      | succ N84 ih84 =>
                                        intro m r hc84 g84 hO bd okL r0 pg hm84
                                        have sX := ((SM12.refl h).only hO (by decide)).s s12
                                        have sS := (SM12.refl h).only hO (by decide)
                                        refine hd_iload pkX12_findAll rfl rfl ?_
                                        refine hd_ipush (z := 4) pkX12_findAll rfl ?_
                                        refine hd_ic_ge pkX12_findAll rfl (fun c24 => ?_) (fun c24 => ?_)
                                        · skip
                                          refine hd_iinc (z := 1) pkX12_findAll rfl rfl (by omega) rfl ?_
                                          change MW _ _ _ _ _ [(3, (0, (l + 1))), (0, (2, ((2449 : Nat) : Int))), (1, (0, m)), (2, (0, c)), (4, (0, r))] _ _
                                          refine hd_goto pkX12_findAll rfl ?_
                                          refine m_sub [(0, (2, ((2449 : Nat) : Int))), (1, (0, m)), (2, (0, c)), (3, (0, (l + 1)))] (List.forall_mem_cons.mpr ⟨rfl, List.forall_mem_cons.mpr ⟨rfl, List.forall_mem_cons.mpr ⟨rfl, List.forall_mem_cons.mpr ⟨rfl, fun _ h => absurd h List.not_mem_nil⟩⟩⟩⟩) ?_
                                          refine ih67  (m) ((l + 1)) hc84 g84 ?_ ?_ ?_ ?_ ?_ ?_
                                          · exact hO
                                          · exact bd
                                          · exact okL
                                          · omega
                                          · exact pg.imp fun D => D.l fun r' s' q => by have := q.2.2.1; omega
                                          · omega
                                        · skip
                                          refine hd_ipush (z := 0) pkX12_findAll rfl ?_
                                          refine hd_istore pkX12_findAll rfl rfl ?_
                                          change MW _ _ _ _ _ [(5, (0, 0)), (0, (2, ((2449 : Nat) : Int))), (1, (0, m)), (2, (0, c)), (3, (0, l)), (4, (0, r))] _ _
                                          have lp89 : ∀ (N89 : Nat) (m s : Int) (hc89 : MH), Str t12c r12c hc89 → (Only [2460, 2461, 2462, 2463] h hc89) → (BD12 hc89) → (OkH h hc89) → (0 ≤ s ∧ s ≤ 9) → (PG12 m hc89 hW (Dn12 h hW c l r s)) → (9 : Int) - s < (N89 : Int) → MW KX12_findAll Q 0 0 (pcA pgX12_findAll 89) [(0, (2, ((2449 : Nat) : Int))), (1, (0, m)), (2, (0, c)), (3, (0, l)), (4, (0, r)), (5, (0, s))] [] hc89 := by
                                            intro N89
                                            induction N89 with
                                            | zero => intro m s hc89 g89 hO bd okL s0 pg hm89; exfalso; omega
                                            | succ N89 ih89 =>
                                              intro m s hc89 g89 hO bd okL s0 pg hm89
                                              have sX := ((SM12.refl h).only hO (by decide)).s s12
                                              have sS := (SM12.refl h).only hO (by decide)
                                              refine hd_iload pkX12_findAll rfl rfl ?_
                                              refine hd_aload pkX12_findAll rfl rfl (Int.natCast_nonneg _) ?_
                                              refine hd_getI pkX12_findAll rfl (g89.cell 0 rfl).1 (g89.cell 0 rfl).2.1 (fun v25 ev25 rv25 => ?_)
                                              replace ev25 : v25 = ga hc89 2449 22 := ev25
                                              have qv25 : mo = v25 := by rw [ev25, hO.ga (by decide)]; exact emo
                                              subst qv25
                                              refine hd_ic_gt pkX12_findAll rfl (fun c26 => ?_) (fun c26 => ?_)
                                              · skip
                                                refine hd_iinc (z := 1) pkX12_findAll rfl rfl (by omega) rfl ?_
                                                change MW _ _ _ _ _ [(4, (0, (r + 1))), (0, (2, ((2449 : Nat) : Int))), (1, (0, m)), (2, (0, c)), (3, (0, l)), (5, (0, s))] _ _
                                                refine hd_goto pkX12_findAll rfl ?_
                                                refine m_sub [(0, (2, ((2449 : Nat) : Int))), (1, (0, m)), (2, (0, c)), (3, (0, l)), (4, (0, (r + 1)))] (List.forall_mem_cons.mpr ⟨rfl, List.forall_mem_cons.mpr ⟨rfl, List.forall_mem_cons.mpr ⟨rfl, List.forall_mem_cons.mpr ⟨rfl, List.forall_mem_cons.mpr ⟨rfl, fun _ h => absurd h List.not_mem_nil⟩⟩⟩⟩⟩) ?_
                                                refine ih84  (m) ((r + 1)) hc89 g89 ?_ ?_ ?_ ?_ ?_ ?_
                                                · exact hO
                                                · exact bd
                                                · exact okL
                                                · omega
                                                · exact pg.imp fun D => D.r fun s' q => by have := q.2.2.2.2.1; omega
                                                · omega
                                              · skip
                                                refine hd_aload pkX12_findAll rfl rfl (Int.natCast_nonneg _) ?_
                                                refine hd_iload pkX12_findAll rfl rfl ?_
                                                refine hd_iload pkX12_findAll rfl rfl ?_
                                                refine hd_callV pkX12_findAll rfl (q := (KX12_isRun, yX12_isRun, 12, 2, 0)) rfl rfl rfl (As := [(0, c), (0, r)]) (rest := []) (c := 2449) rfl rfl (Nat.le_of_ble_eq_true rfl) (g89.cell 0 rfl).1 (g89.cell 0 rfl).2.1 (h_X12_isRun ⟨by omega, by omega⟩ g89) (hd_bI (fun w27 hc28 pr => ?_))
                                                obtain ⟨pr, ehc28⟩ := pr
                                                replace ehc28 := ehc28.symm
                                                subst ehc28
                                                refine hd_if_eq pkX12_findAll rfl (fun c29 => ?_) (fun c29 => ?_)
                                                · skip
                                                  have xr := pr.f c29
                                                  rw [sS.rn] at xr
                                                  refine hd_iinc (z := 1) pkX12_findAll rfl rfl (by omega) rfl ?_
                                                  change MW _ _ _ _ _ [(4, (0, (r + 1))), (0, (2, ((2449 : Nat) : Int))), (1, (0, m)), (2, (0, c)), (3, (0, l)), (5, (0, s))] _ _
                                                  refine hd_goto pkX12_findAll rfl ?_
                                                  refine m_sub [(0, (2, ((2449 : Nat) : Int))), (1, (0, m)), (2, (0, c)), (3, (0, l)), (4, (0, (r + 1)))] (List.forall_mem_cons.mpr ⟨rfl, List.forall_mem_cons.mpr ⟨rfl, List.forall_mem_cons.mpr ⟨rfl, List.forall_mem_cons.mpr ⟨rfl, List.forall_mem_cons.mpr ⟨rfl, fun _ h => absurd h List.not_mem_nil⟩⟩⟩⟩⟩) ?_
                                                  refine ih84  (m) ((r + 1)) hc89 g89 ?_ ?_ ?_ ?_ ?_ ?_
                                                  · exact hO
                                                  · exact bd
                                                  · exact okL
                                                  · omega
                                                  · exact pg.imp fun D => D.r fun s' q => (xr q.2.2.2.2.2.2.2).elim
                                                  · omega
                                                · skip
                                                  refine hd_aload pkX12_findAll rfl rfl (Int.natCast_nonneg _) ?_
                                                  refine hd_iload pkX12_findAll rfl rfl ?_
                                                  refine hd_iload pkX12_findAll rfl rfl ?_
                                                  refine hd_iload pkX12_findAll rfl rfl ?_
                                                  refine hd_iload pkX12_findAll rfl rfl ?_
                                                  refine hd_callV pkX12_findAll rfl (q := (KX12_look, yX12_look, 12, 4, 0)) rfl rfl rfl (As := [(0, c), (0, l), (0, r), (0, s)]) (rest := []) (c := 2449) rfl rfl (Nat.le_of_ble_eq_true rfl) (g89.cell 0 rfl).1 (g89.cell 0 rfl).2.1 (h_X12_look (σ := h) sS s12 okL bd ⟨by omega, by omega⟩ ⟨by omega, by omega⟩ ⟨by omega, by omega⟩ ⟨by omega, by omega⟩ g89) (hd_bI (fun w30 hc31 pl => ?_))
                                                  have ghc31 : Str t12c r12c hc31 := g89.only pl.1 (by decide)
                                                  refine hd_if_ne pkX12_findAll rfl (fun c32 => ?_) (fun c32 => ?_)
                                                  · skip
                                                    refine hd_ipush (z := 1) pkX12_findAll rfl ?_
                                                    refine hd_goto pkX12_findAll rfl ?_
                                                    refine hd_istore pkX12_findAll rfl rfl ?_
                                                    change MW _ _ _ _ _ [(1, (0, 1)), (0, (2, ((2449 : Nat) : Int))), (2, (0, c)), (3, (0, l)), (4, (0, r)), (5, (0, s))] _ _
                                                    refine hd_iinc (z := 1) pkX12_findAll rfl rfl (by omega) rfl ?_
                                                    change MW _ _ _ _ _ [(5, (0, (s + 1))), (1, (0, 1)), (0, (2, ((2449 : Nat) : Int))), (2, (0, c)), (3, (0, l)), (4, (0, r))] _ _
                                                    refine hd_goto pkX12_findAll rfl ?_
                                                    refine m_sub [(0, (2, ((2449 : Nat) : Int))), (1, (0, 1)), (2, (0, c)), (3, (0, l)), (4, (0, r)), (5, (0, (s + 1)))] (List.forall_mem_cons.mpr ⟨rfl, List.forall_mem_cons.mpr ⟨rfl, List.forall_mem_cons.mpr ⟨rfl, List.forall_mem_cons.mpr ⟨rfl, List.forall_mem_cons.mpr ⟨rfl, List.forall_mem_cons.mpr ⟨rfl, fun _ h => absurd h List.not_mem_nil⟩⟩⟩⟩⟩⟩) ?_
                                                    refine ih89  (1) ((s + 1)) hc31 ghc31 ?_ ?_ ?_ ?_ ?_ ?_
                                                    · exact hO.trans pl.1
                                                    · exact pl.2.2.1
                                                    · exact pl.2.1
                                                    · omega
                                                    · rcases pl.2.2.2 with ⟨w, _⟩ | ⟨_, w⟩
                                                      · omega
                                                      · exact pg.up w
                                                    · omega
                                                  · skip
                                                    refine hd_iload pkX12_findAll rfl rfl ?_
                                                    refine hd_if_eq pkX12_findAll rfl (fun c33 => ?_) (fun c33 => ?_)
                                                    · skip
                                                      refine hd_ipush (z := 0) pkX12_findAll rfl ?_
                                                      refine hd_istore pkX12_findAll rfl rfl ?_
                                                      change MW _ _ _ _ _ [(1, (0, 0)), (0, (2, ((2449 : Nat) : Int))), (2, (0, c)), (3, (0, l)), (4, (0, r)), (5, (0, s))] _ _
                                                      refine hd_iinc (z := 1) pkX12_findAll rfl rfl (by omega) rfl ?_
                                                      change MW _ _ _ _ _ [(5, (0, (s + 1))), (1, (0, 0)), (0, (2, ((2449 : Nat) : Int))), (2, (0, c)), (3, (0, l)), (4, (0, r))] _ _
                                                      refine hd_goto pkX12_findAll rfl ?_
                                                      refine m_sub [(0, (2, ((2449 : Nat) : Int))), (1, (0, 0)), (2, (0, c)), (3, (0, l)), (4, (0, r)), (5, (0, (s + 1)))] (List.forall_mem_cons.mpr ⟨rfl, List.forall_mem_cons.mpr ⟨rfl, List.forall_mem_cons.mpr ⟨rfl, List.forall_mem_cons.mpr ⟨rfl, List.forall_mem_cons.mpr ⟨rfl, List.forall_mem_cons.mpr ⟨rfl, fun _ h => absurd h List.not_mem_nil⟩⟩⟩⟩⟩⟩) ?_
                                                      refine ih89  (0) ((s + 1)) hc31 ghc31 ?_ ?_ ?_ ?_ ?_ ?_
                                                      · exact hO.trans pl.1
                                                      · exact pl.2.2.1
                                                      · exact pl.2.1
                                                      · omega
                                                      · rcases pl.2.2.2 with ⟨_, e, f⟩ | ⟨v, _⟩
                                                        · rcases pg with ⟨_, e2, D⟩ | ⟨w, _⟩
                                                          · exact Or.inl ⟨rfl, e.trans e2, D.s (e2 ▸ f)⟩
                                                          · omega
                                                        · omega
                                                      · omega
                                                    · skip
                                                      refine hd_ipush (z := 1) pkX12_findAll rfl ?_
                                                      refine hd_goto pkX12_findAll rfl ?_
                                                      refine hd_istore pkX12_findAll rfl rfl ?_
                                                      change MW _ _ _ _ _ [(1, (0, 1)), (0, (2, ((2449 : Nat) : Int))), (2, (0, c)), (3, (0, l)), (4, (0, r)), (5, (0, s))] _ _
                                                      refine hd_iinc (z := 1) pkX12_findAll rfl rfl (by omega) rfl ?_
                                                      change MW _ _ _ _ _ [(5, (0, (s + 1))), (1, (0, 1)), (0, (2, ((2449 : Nat) : Int))), (2, (0, c)), (3, (0, l)), (4, (0, r))] _ _
                                                      refine hd_goto pkX12_findAll rfl ?_
                                                      refine m_sub [(0, (2, ((2449 : Nat) : Int))), (1, (0, 1)), (2, (0, c)), (3, (0, l)), (4, (0, r)), (5, (0, (s + 1)))] (List.forall_mem_cons.mpr ⟨rfl, List.forall_mem_cons.mpr ⟨rfl, List.forall_mem_cons.mpr ⟨rfl, List.forall_mem_cons.mpr ⟨rfl, List.forall_mem_cons.mpr ⟨rfl, List.forall_mem_cons.mpr ⟨rfl, fun _ h => absurd h List.not_mem_nil⟩⟩⟩⟩⟩⟩) ?_
                                                      refine ih89  (1) ((s + 1)) hc31 ghc31 ?_ ?_ ?_ ?_ ?_ ?_
                                                      · exact hO.trans pl.1
                                                      · exact pl.2.2.1
                                                      · exact pl.2.1
                                                      · omega
                                                      · rcases pg with ⟨w, _⟩ | ⟨_, w⟩
                                                        · omega
                                                        · rcases pl.2.2.2 with ⟨_, e, _⟩ | ⟨v, _⟩
                                                          · exact Or.inr ⟨rfl, by rw [e]; exact w⟩
                                                          · omega
                                                      · omega
                                          refine m_sub [(0, (2, ((2449 : Nat) : Int))), (1, (0, m)), (2, (0, c)), (3, (0, l)), (4, (0, r)), (5, (0, 0))] (List.forall_mem_cons.mpr ⟨rfl, List.forall_mem_cons.mpr ⟨rfl, List.forall_mem_cons.mpr ⟨rfl, List.forall_mem_cons.mpr ⟨rfl, List.forall_mem_cons.mpr ⟨rfl, List.forall_mem_cons.mpr ⟨rfl, fun _ h => absurd h List.not_mem_nil⟩⟩⟩⟩⟩⟩) ?_
                                          refine lp89 (((9 : Int) - (0)) + 1).toNat (m) (0) hc84 g84 ?_ ?_ ?_ ?_ ?_ ?_
                                          · exact hO
                                          · exact bd
                                          · exact okL
                                          · omega
                                          · exact pg
                                          · omega
                                    refine m_sub [(0, (2, ((2449 : Nat) : Int))), (1, (0, m)), (2, (0, c)), (3, (0, l)), (4, (0, 0))] (List.forall_mem_cons.mpr ⟨rfl, List.forall_mem_cons.mpr ⟨rfl, List.forall_mem_cons.mpr ⟨rfl, List.forall_mem_cons.mpr ⟨rfl, List.forall_mem_cons.mpr ⟨rfl, fun _ h => absurd h List.not_mem_nil⟩⟩⟩⟩⟩) ?_
                                    refine lp84 (((4 : Int) - (0)) + 1).toNat (m) (0) hc67 g67 ?_ ?_ ?_ ?_ ?_ ?_
                                    · exact hO
                                    · exact bd
                                    · exact okL
                                    · omega
                                    · exact pg
                                    · omega
                          refine m_sub [(0, (2, ((2449 : Nat) : Int))), (1, (0, m)), (2, (0, c)), (3, (0, 0))] (List.forall_mem_cons.mpr ⟨rfl, List.forall_mem_cons.mpr ⟨rfl, List.forall_mem_cons.mpr ⟨rfl, List.forall_mem_cons.mpr ⟨rfl, fun _ h => absurd h List.not_mem_nil⟩⟩⟩⟩) ?_
                          refine lp67 (((17 : Int) - (0)) + 1).toNat (m) (0) hc58 g58 ?_ ?_ ?_ ?_ ?_ ?_
                          · exact hO
                          · exact bd
                          · exact okL
                          · omega
                          · exact pg
                          · omega
                    refine m_sub [(0, (2, ((2449 : Nat) : Int))), (1, (0, 0)), (2, (0, 0))] (List.forall_mem_cons.mpr ⟨rfl, List.forall_mem_cons.mpr ⟨rfl, List.forall_mem_cons.mpr ⟨rfl, fun _ h => absurd h List.not_mem_nil⟩⟩⟩) ?_
                    refine lp58 (((144 : Int) - (0)) + 1).toNat (0) (0) hW g52 ?_ ?_ ?_ ?_ ?_ ?_
                    · exact hO
                    · exact bd
                    · exact okL
                    · omega
                    · exact Or.inl ⟨rfl, rfl, Dn12.zero _ _⟩
                    · omega
              refine m_sub [(0, (2, ((2449 : Nat) : Int))), (1, (0, 1))] (List.forall_mem_cons.mpr ⟨rfl, List.forall_mem_cons.mpr ⟨rfl, fun _ h => absurd h List.not_mem_nil⟩⟩) ?_
              refine lp52 ((2 * muH hB + (1)) + 1).toNat (1) hB g14 ?_ ?_ ?_ ?_ ?_
              · exact hO
              · exact bd
              · exact okz.1
              · omega
              · have := okz.1.mu0 (ed12_b s12) (n := 88128) rfl; unfold muH; omega
            · skip
              refine hd_aload pkX12_findAll rfl rfl (Int.natCast_nonneg _) ?_
              refine hd_getI pkX12_findAll rfl (g14.cell 0 rfl).1 (g14.cell 0 rfl).2.1 (fun v34 ev34 rv34 => ?_)
              replace ev34 : v34 = ga hB 2449 21 := ev34
              have qv34 : go = v34 := by rw [ev34, hO.ga (by decide)]; exact ego
              subst qv34
              refine hd_iload pkX12_findAll rfl rfl ?_
              refine hd_ipush (z := 0) pkX12_findAll rfl ?_
              refine hd_ipush (z := 0) pkX12_findAll rfl ?_
              refine hd_callS pkX12_findAll rfl (q := (KX12_label, yX12_label, 12, 4, 1)) rfl rfl rfl (As := [(0, go), (0, k), (0, 0), (0, 0)]) (rest := []) rfl rfl (Nat.le_of_ble_eq_true rfl) rfl (h_X12_label (by omega) ⟨by omega, by omega⟩ ⟨by omega, by omega⟩ ⟨by omega, by omega⟩ g14) (hd_bI (fun w35 hc36 pl => ?_))
              obtain ⟨pl, ehc36⟩ := pl
              replace ehc36 := ehc36.symm
              subst ehc36
              subst pl
              refine hd_istore pkX12_findAll rfl rfl ?_
              change MW _ _ _ _ _ [(2, (0, (612 * go + 36 * k + 9 * 0 + 0))), (0, (2, ((2449 : Nat) : Int))), (1, (0, k))] _ _
              refine hd_aload pkX12_findAll rfl rfl (Int.natCast_nonneg _) ?_
              refine hd_iload pkX12_findAll rfl rfl ?_
              refine hd_callV pkX12_findAll rfl (q := (KX12_isHeading, yX12_isHeading, 12, 1, 0)) rfl rfl rfl (As := [(0, k)]) (rest := []) (c := 2449) rfl rfl (Nat.le_of_ble_eq_true rfl) (g14.cell 0 rfl).1 (g14.cell 0 rfl).2.1 (h_X12_isHeading ⟨by omega, by omega⟩ g14) (hd_bI (fun w37 hc38 ph => ?_))
              obtain ⟨ph, ehc38⟩ := ph
              replace ehc38 := ehc38.symm
              subst ehc38
              refine hd_if_eq pkX12_findAll rfl (fun c39 => ?_) (fun c39 => ?_)
              · skip
                refine hd_iinc (z := 1) pkX12_findAll rfl rfl (by omega) rfl ?_
                change MW _ _ _ _ _ [(1, (0, (k + 1))), (2, (0, (612 * go + 36 * k + 9 * 0 + 0))), (0, (2, ((2449 : Nat) : Int)))] _ _
                refine hd_goto pkX12_findAll rfl ?_
                refine m_sub [(0, (2, ((2449 : Nat) : Int))), (1, (0, (k + 1)))] (List.forall_mem_cons.mpr ⟨rfl, List.forall_mem_cons.mpr ⟨rfl, fun _ h => absurd h List.not_mem_nil⟩⟩) ?_
                refine ih14  ((k + 1)) hB g14 ?_ ?_ ?_ ?_ ?_
                · exact hO
                · exact bd
                · omega
                · exact okz
                · omega
              · skip
                refine hd_aload pkX12_findAll rfl rfl (Int.natCast_nonneg _) ?_
                refine hd_getR (n := 2463) pkX12_findAll rfl (g14.cell 0 rfl).1 (g14.cell 0 rfl).2.1 (g14.ref 13 rfl) ?_
                refine hd_iload pkX12_findAll rfl rfl ?_
                refine hd_ipush (z := 1) pkX12_findAll rfl ?_
                refine hd_zast (n := 88128) pkX12_findAll rfl (g14.cell 14 rfl) (by decide) (by omega) (by omega) (by omega) (fun hh40 ehh40 => ?_)
                have ghh40 : Str t12c r12c hh40 := by rw [ehh40]; exact g14.setA rfl
                have o1 : Only [2460, 2461, 2462, 2463] h hh40 := by rw [ehh40]; exact hO.set (by decide)
                have f2463_0 : ∀ j : Int, 0 ≤ j → ga hh40 2463 j = if j = (612 * go + 36 * k + 9 * 0 + 0) then 1 else ga hB 2463 j := fun j a => by rw [ehh40]; exact ga_sa _ _ _ (by omega) a
                have f2460_0 : ∀ j : Int, ga hh40 2460 j = ga hB 2460 j := fun j => by rw [ehh40, ga_ne _ _ _ _ (by decide)]
                have f2461_0 : ∀ j : Int, ga hh40 2461 j = ga hB 2461 j := fun j => by rw [ehh40, ga_ne _ _ _ _ (by decide)]
                have f2462_0 : ∀ j : Int, ga hh40 2462 j = ga hB 2462 j := fun j => by rw [ehh40, ga_ne _ _ _ _ (by decide)]
                refine hd_aload pkX12_findAll rfl rfl (Int.natCast_nonneg _) ?_
                refine hd_getR (n := 2460) pkX12_findAll rfl (ghh40.cell 0 rfl).1 (ghh40.cell 0 rfl).2.1 (ghh40.ref 10 rfl) ?_
                refine hd_iload pkX12_findAll rfl rfl ?_
                refine hd_lpush (z := 0) pkX12_findAll rfl ?_
                refine hd_last (n := 88128) pkX12_findAll rfl (ghh40.cell 11 rfl) (by decide) (by omega) (by omega) (fun hh41 ehh41 => ?_)
                have ghh41 : Str t12c r12c hh41 := by rw [ehh41]; exact ghh40.setA rfl
                have o2 : Only [2460, 2461, 2462, 2463] h hh41 := by rw [ehh41]; exact o1.set (by decide)
                have f2463_1 : ∀ j : Int, 0 ≤ j → ga hh41 2463 j = if j = (612 * go + 36 * k + 9 * 0 + 0) then 1 else ga hB 2463 j := fun j a => by rw [ehh41, ga_ne _ _ _ _ (by decide)]; exact f2463_0 j a
                have f2460_1 : ∀ j : Int, 0 ≤ j → ga hh41 2460 j = if j = (612 * go + 36 * k + 9 * 0 + 0) then 0 else ga hB 2460 j := fun j a => by rw [ehh41, ga_sa _ _ _ (by omega) a, f2460_0]
                have f2461_1 : ∀ j : Int, ga hh41 2461 j = ga hB 2461 j := fun j => by rw [ehh41, ga_ne _ _ _ _ (by decide)]; exact f2461_0 j
                have f2462_1 : ∀ j : Int, ga hh41 2462 j = ga hB 2462 j := fun j => by rw [ehh41, ga_ne _ _ _ _ (by decide)]; exact f2462_0 j
                refine hd_aload pkX12_findAll rfl rfl (Int.natCast_nonneg _) ?_
                refine hd_getR (n := 2461) pkX12_findAll rfl (ghh41.cell 0 rfl).1 (ghh41.cell 0 rfl).2.1 (ghh41.ref 11 rfl) ?_
                refine hd_iload pkX12_findAll rfl rfl ?_
                refine hd_ipush (z := 0) pkX12_findAll rfl ?_
                refine hd_iast (n := 88128) pkX12_findAll rfl (ghh41.cell 12 rfl) (by decide) (by omega) (by omega) (fun hh42 ehh42 => ?_)
                have ghh42 : Str t12c r12c hh42 := by rw [ehh42]; exact ghh41.setA rfl
                have o3 : Only [2460, 2461, 2462, 2463] h hh42 := by rw [ehh42]; exact o2.set (by decide)
                have f2463_2 : ∀ j : Int, 0 ≤ j → ga hh42 2463 j = if j = (612 * go + 36 * k + 9 * 0 + 0) then 1 else ga hB 2463 j := fun j a => by rw [ehh42, ga_ne _ _ _ _ (by decide)]; exact f2463_1 j a
                have f2460_2 : ∀ j : Int, 0 ≤ j → ga hh42 2460 j = if j = (612 * go + 36 * k + 9 * 0 + 0) then 0 else ga hB 2460 j := fun j a => by rw [ehh42, ga_ne _ _ _ _ (by decide)]; exact f2460_1 j a
                have f2461_2 : ∀ j : Int, 0 ≤ j → ga hh42 2461 j = if j = (612 * go + 36 * k + 9 * 0 + 0) then 0 else ga hB 2461 j := fun j a => by rw [ehh42, ga_sa _ _ _ (by omega) a, f2461_1]
                have f2462_2 : ∀ j : Int, ga hh42 2462 j = ga hB 2462 j := fun j => by rw [ehh42, ga_ne _ _ _ _ (by decide)]; exact f2462_1 j
                refine hd_aload pkX12_findAll rfl rfl (Int.natCast_nonneg _) ?_
                refine hd_getR (n := 2462) pkX12_findAll rfl (ghh42.cell 0 rfl).1 (ghh42.cell 0 rfl).2.1 (ghh42.ref 12 rfl) ?_
                refine hd_iload pkX12_findAll rfl rfl ?_
                refine hd_ipush (z := 0) pkX12_findAll rfl ?_
                refine hd_iast (n := 88128) pkX12_findAll rfl (ghh42.cell 13 rfl) (by decide) (by omega) (by omega) (fun hh43 ehh43 => ?_)
                have ghh43 : Str t12c r12c hh43 := by rw [ehh43]; exact ghh42.setA rfl
                have o4 : Only [2460, 2461, 2462, 2463] h hh43 := by rw [ehh43]; exact o3.set (by decide)
                have f2463_3 : ∀ j : Int, 0 ≤ j → ga hh43 2463 j = if j = (612 * go + 36 * k + 9 * 0 + 0) then 1 else ga hB 2463 j := fun j a => by rw [ehh43, ga_ne _ _ _ _ (by decide)]; exact f2463_2 j a
                have f2460_3 : ∀ j : Int, 0 ≤ j → ga hh43 2460 j = if j = (612 * go + 36 * k + 9 * 0 + 0) then 0 else ga hB 2460 j := fun j a => by rw [ehh43, ga_ne _ _ _ _ (by decide)]; exact f2460_2 j a
                have f2461_3 : ∀ j : Int, 0 ≤ j → ga hh43 2461 j = if j = (612 * go + 36 * k + 9 * 0 + 0) then 0 else ga hB 2461 j := fun j a => by rw [ehh43, ga_ne _ _ _ _ (by decide)]; exact f2461_2 j a
                have f2462_3 : ∀ j : Int, 0 ≤ j → ga hh43 2462 j = if j = (612 * go + 36 * k + 9 * 0 + 0) then 0 else ga hB 2462 j := fun j a => by rw [ehh43, ga_sa _ _ _ (by omega) a, f2462_2]
                have bdN : BD12 hh43 := bd.set f2460_3 f2461_3 f2462_3 (by omega) (by omega) (by omega)
                have okN := okz.1.goal (i := (612 * go + 36 * k + 9 * 0 + 0)) (by omega) (by omega) (by omega) okz.2 f2463_3 f2460_3 f2461_3 f2462_3
                refine hd_iinc (z := 1) pkX12_findAll rfl rfl (by omega) rfl ?_
                change MW _ _ _ _ _ [(1, (0, (k + 1))), (2, (0, (612 * go + 36 * k + 9 * 0 + 0))), (0, (2, ((2449 : Nat) : Int)))] _ _
                refine hd_goto pkX12_findAll rfl ?_
                refine m_sub [(0, (2, ((2449 : Nat) : Int))), (1, (0, (k + 1)))] (List.forall_mem_cons.mpr ⟨rfl, List.forall_mem_cons.mpr ⟨rfl, fun _ h => absurd h List.not_mem_nil⟩⟩) ?_
                refine ih14  ((k + 1)) hh43 ghh43 ?_ ?_ ?_ ?_ ?_
                · exact o4
                · exact bdN
                · omega
                · exact okN
                · omega
        refine m_sub [(0, (2, ((2449 : Nat) : Int))), (1, (0, 0))] (List.forall_mem_cons.mpr ⟨rfl, List.forall_mem_cons.mpr ⟨rfl, fun _ h => absurd h List.not_mem_nil⟩⟩) ?_
        refine lp14 (((16 : Int) - (0)) + 1).toNat (0) hA g2 ?_ ?_ ?_ ?_ ?_
        · exact hO
        · exact bd
        · omega
        · exact ⟨fun i i0 i1 ki => absurd (z i i0 (by omega)) ki, fun i i0 i1 ki => absurd (z i i0 (by omega)) ki⟩
        · omega
      · skip
        refine hd_aload pkX12_findAll rfl rfl (Int.natCast_nonneg _) ?_
        refine hd_getR (n := 2463) pkX12_findAll rfl (g2.cell 0 rfl).1 (g2.cell 0 rfl).2.1 (g2.ref 13 rfl) ?_
        refine hd_iload pkX12_findAll rfl rfl ?_
        refine hd_ipush (z := 0) pkX12_findAll rfl ?_
        refine hd_zast (n := 88128) pkX12_findAll rfl (g2.cell 14 rfl) (by decide) (by omega) (by omega) (by omega) (fun hh44 ehh44 => ?_)
        have ghh44 : Str t12c r12c hh44 := by rw [ehh44]; exact g2.setA rfl
        refine hd_iinc (z := 1) pkX12_findAll rfl rfl (by omega) rfl ?_
        change MW _ _ _ _ _ [(1, (0, (k + 1))), (0, (2, ((2449 : Nat) : Int)))] _ _
        refine hd_goto pkX12_findAll rfl ?_
        refine m_sub [(0, (2, ((2449 : Nat) : Int))), (1, (0, (k + 1)))] (List.forall_mem_cons.mpr ⟨rfl, List.forall_mem_cons.mpr ⟨rfl, fun _ h => absurd h List.not_mem_nil⟩⟩) ?_
        refine ih2  ((k + 1)) hh44 ghh44 ?_ ?_ ?_ ?_ ?_
        · rw [ehh44]
          exact hO.set (by decide)
        · rw [ehh44]
          exact bd.sa (by decide)
        · omega
        · intro j a b
          rw [ehh44, ga_sa _ _ _ (by omega) a]
          split
          · rfl
          · exact z j a (by omega)
        · omega
  refine m_sub [(0, (2, ((2449 : Nat) : Int))), (1, (0, 0))] (List.forall_mem_cons.mpr ⟨rfl, List.forall_mem_cons.mpr ⟨rfl, fun _ h => absurd h List.not_mem_nil⟩⟩) ?_
  refine lp2 (((88128 : Int) - (0)) + 1).toNat (0) h g ?_ ?_ ?_ ?_ ?_
  · exact Only.refl _ _
  · exact bd0
  · omega
  · intro j a b
    omega
  · omega
