/-! X18 by hand: its methods -/
set_option maxRecDepth 20000 in
set_option maxHeartbeats 8000000 in
theorem h_X18_planAll {h : MH} {n : Int} (hn : 1 ≤ n ∧ n ≤ 30) (g : Str t18c r18c h) : MCal KX18_planAll yX18_planAll 0 0 [(2, ((2534 : Nat) : Int)), (0, n)] h (mRV fun h' => Only [2550] h h' ∧ ∀ a b : Int, 0 ≤ a → a ≤ n → 1 ≤ b → b ≤ 30 → E18 h' 2550 2544 n a b) := by
  refine MCal.ofMW (Or.inl rfl) ⟨cp_X18, rfl⟩ (Nat.le_of_ble_eq_true rfl) ?_
  generalize eQ : (mRV fun h' => Only [2550] h h' ∧ ∀ a b : Int, 0 ≤ a → a ≤ n → 1 ≤ b → b ≤ 30 → E18 h' 2550 2544 n a b : MO → MH → Prop) = Q
  change MW KX18_planAll Q 0 0 (pcA pgX18_planAll 0) [(0, (2, ((2534 : Nat) : Int))), (1, (0, n))] [] h
  refine hd_locI (i := 1) rfl (fun rn => ?_)
  refine hd_iload pkX18_planAll rfl rfl ?_
  refine hd_istore pkX18_planAll rfl rfl ?_
  change MW _ _ _ _ _ [(2, (0, n)), (0, (2, ((2534 : Nat) : Int))), (1, (0, n))] _ _
  have lp2 : ∀ (N2 : Nat) (y : Int) (hY : MH), Str t18c r18c hY → (Only [2550] h hY) → (-1 ≤ y ∧ y ≤ n) → (∀ a b : Int, y < a → a ≤ n → 1 ≤ b → b ≤ 30 → E18 hY 2550 2544 n a b) → (y : Int) + 1 < (N2 : Int) → MW KX18_planAll Q 0 0 (pcA pgX18_planAll 2) [(0, (2, ((2534 : Nat) : Int))), (1, (0, n)), (2, (0, y))] [] hY := by
    intro N2
    induction N2 with
    | zero => intro y hY g2 hO y0 ey hm2; exfalso; omega
    | succ N2 ih2 =>
      intro y hY g2 hO y0 ey hm2
      refine hd_iload pkX18_planAll rfl rfl ?_
      refine hd_if_lt pkX18_planAll rfl (fun c1 => ?_) (fun c1 => ?_)
      · skip
        refine hd_vret pkX18_planAll rfl ?_
        subst eQ
        exact ⟨rfl, hO, fun a b a0 a1 b0 b1 => ey a b (by omega) a1 b0 b1⟩
      · skip
        refine hd_ipush (z := 0) pkX18_planAll rfl ?_
        refine hd_istore pkX18_planAll rfl rfl ?_
        change MW _ _ _ _ _ [(3, (0, 0)), (0, (2, ((2534 : Nat) : Int))), (1, (0, n)), (2, (0, y))] _ _
        have lp6 : ∀ (N6 : Nat) (m : Int) (hM : MH), Str t18c r18c hM → (Only [2550] h hM) → (0 ≤ m ∧ m ≤ 31) → (∀ a b : Int, y < a → a ≤ n → 1 ≤ b → b ≤ 30 → E18 hM 2550 2544 n a b) → (∀ b : Int, 1 ≤ b → b < m → E18 hM 2550 2544 n y b) → (31 : Int) - m < (N6 : Int) → MW KX18_planAll Q 0 0 (pcA pgX18_planAll 6) [(0, (2, ((2534 : Nat) : Int))), (1, (0, n)), (2, (0, y)), (3, (0, m))] [] hM := by
          intro N6
          induction N6 with
          | zero => intro m hM g6 hOM m0 eyM em hm6; exfalso; omega
          | succ N6 ih6 =>
            intro m hM g6 hOM m0 eyM em hm6
            refine hd_iload pkX18_planAll rfl rfl ?_
            refine hd_ipush (z := 30) pkX18_planAll rfl ?_
            refine hd_ic_gt pkX18_planAll rfl (fun c2 => ?_) (fun c2 => ?_)
            · skip
              refine hd_iinc (z := (-1)) pkX18_planAll rfl rfl (by omega) rfl ?_
              change MW _ _ _ _ _ [(2, (0, (y + (-1)))), (0, (2, ((2534 : Nat) : Int))), (1, (0, n)), (3, (0, m))] _ _
              refine hd_goto pkX18_planAll rfl ?_
              refine m_sub [(0, (2, ((2534 : Nat) : Int))), (1, (0, n)), (2, (0, (y + (-1))))] (List.forall_mem_cons.mpr ⟨rfl, List.forall_mem_cons.mpr ⟨rfl, List.forall_mem_cons.mpr ⟨rfl, fun _ h => absurd h List.not_mem_nil⟩⟩⟩) ?_
              refine ih2  ((y + (-1))) hM g6 ?_ ?_ ?_ ?_
              · exact hOM
              · omega
              · intro a b a1 a2 b1 b2
                by_cases q : a = y
                · rw [q]
                  exact em b b1 (by omega)
                · exact eyM a b (by omega) a2 b1 b2
              · omega
            · skip
              have cut34 : ∀ (bs : Int), (m ≠ 0 → bs = -1) → MW KX18_planAll Q 0 0 (pcA pgX18_planAll 34) [(0, (2, ((2534 : Nat) : Int))), (1, (0, n)), (2, (0, y)), (3, (0, m))] [(1, bs)] hM := by
                intro bs b0
                refine hd_lstore pkX18_planAll rfl rfl ?_
                change MW _ _ _ _ _ [(4, (1, bs)), (0, (2, ((2534 : Nat) : Int))), (1, (0, n)), (2, (0, y)), (3, (0, m))] _ _
                refine hd_iload pkX18_planAll rfl rfl ?_
                refine hd_ipush (z := 1) pkX18_planAll rfl ?_
                refine hd_iadd pkX18_planAll rfl (by omega) ?_
                refine hd_istore pkX18_planAll rfl rfl ?_
                change MW _ _ _ _ _ [(6, (0, (y + 1))), (4, (1, bs)), (0, (2, ((2534 : Nat) : Int))), (1, (0, n)), (2, (0, y)), (3, (0, m))] _ _
                have lp39 : ∀ (N39 : Nat) (be z : Int), (y < z) → (m ≠ 0 → 0 ≤ be → ∃ z : Int, y < z ∧ z < n ∧ 0 ≤ ga hM 2550 (31 * z + (m - 1)) ∧ wrL (wrL (wrL (ga hM 2544 1 * (z - y)) * (z - y)) + ga hM 2550 (31 * z + (m - 1))) = be) → (z ≤ n + 1) → (n : Int) + 40 - z < (N39 : Int) → MW KX18_planAll Q 0 0 (pcA pgX18_planAll 39) [(0, (2, ((2534 : Nat) : Int))), (1, (0, n)), (2, (0, y)), (3, (0, m)), (4, (1, be)), (6, (0, z))] [] hM := by
                  intro N39
                  induction N39 with
                  | zero => intro be z z0 bB z9 hm39; exfalso; omega
                  | succ N39 ih39 =>
                    intro be z z0 bB z9 hm39
                    refine hd_iload pkX18_planAll rfl rfl ?_
                    refine hd_iload pkX18_planAll rfl rfl ?_
                    refine hd_ic_ge pkX18_planAll rfl (fun c3 => ?_) (fun c3 => ?_)
                    · skip
                      refine hd_aload pkX18_planAll rfl rfl (Int.natCast_nonneg _) ?_
                      refine hd_getR (n := 2550) pkX18_planAll rfl (g6.cell 0 rfl).1 (g6.cell 0 rfl).2.1 (g6.ref 15 rfl) ?_
                      refine hd_ipush (z := 31) pkX18_planAll rfl ?_
                      refine hd_iload pkX18_planAll rfl rfl ?_
                      refine hd_imul pkX18_planAll rfl (by omega) ?_
                      refine hd_iload pkX18_planAll rfl rfl ?_
                      refine hd_iadd pkX18_planAll rfl (by omega) ?_
                      refine hd_lload pkX18_planAll rfl rfl ?_
                      refine hd_last (n := 961) pkX18_planAll rfl (g6.cell 16 rfl) (by decide) (by omega) (by omega) (fun hh4 ehh4 => ?_)
                      have ghh4 : Str t18c r18c hh4 := by rw [ehh4]; exact g6.setA rfl
                      have o2 : Only [2550] h hh4 := by rw [ehh4]; exact hOM.set List.mem_cons_self
                      have f2 : ∀ j : Int, 0 ≤ j → j ≠ 31 * y + m → ga hh4 2550 j = ga hM 2550 j := fun j a q => by rw [ehh4, ga_sa _ _ _ (by omega) a]; exact if_neg q
                      have g2 : ga hh4 2550 (31 * y + m) = be := by rw [ehh4, ga_sa _ _ _ (by omega) (by omega)]; exact if_pos rfl
                      have c2 : ga hh4 2544 1 = ga hM 2544 1 := by rw [ehh4]; exact ga_ne _ _ _ _ (by decide) _
                      refine hd_iinc (z := 1) pkX18_planAll rfl rfl (by omega) rfl ?_
                      change MW _ _ _ _ _ [(3, (0, (m + 1))), (0, (2, ((2534 : Nat) : Int))), (1, (0, n)), (2, (0, y)), (4, (1, be)), (6, (0, z))] _ _
                      refine hd_goto pkX18_planAll rfl ?_
                      refine m_sub [(0, (2, ((2534 : Nat) : Int))), (1, (0, n)), (2, (0, y)), (3, (0, (m + 1)))] (List.forall_mem_cons.mpr ⟨rfl, List.forall_mem_cons.mpr ⟨rfl, List.forall_mem_cons.mpr ⟨rfl, List.forall_mem_cons.mpr ⟨rfl, fun _ h => absurd h List.not_mem_nil⟩⟩⟩⟩) ?_
                      refine ih6  ((m + 1)) hh4 ghh4 ?_ ?_ ?_ ?_ ?_
                      · exact o2
                      · omega
                      · intro a b a1 a2 b1 b2
                        exact (eyM a b a1 a2 b1 b2).keep (y := y) (m := m) f2 c2 ⟨b1, b2⟩ (by omega) (by omega) (Or.inl a1)
                      · intro b b1 b2
                        by_cases q : b = m
                        · rw [q]
                          intro z0
                          rw [g2] at z0 ⊢
                          obtain ⟨z, z1, z2, z3, z4⟩ := bB (by omega) z0
                          refine ⟨z, z1, z2, ?_, ?_⟩
                          · rw [f2 _ (by omega) (by omega)]
                            exact z3
                          · rw [f2 _ (by omega) (by omega), c2]
                            exact z4
                        · exact (em b b1 (by omega)).keep (y := y) (m := m) f2 c2 ⟨b1, by omega⟩ (by omega) (by omega) (Or.inr q)
                      · omega
                    · skip
                      refine hd_iload pkX18_planAll rfl rfl ?_
                      refine hd_if_le pkX18_planAll rfl (fun c5 => ?_) (fun c5 => ?_)
                      · skip
                        refine hd_aload pkX18_planAll rfl rfl (Int.natCast_nonneg _) ?_
                        refine hd_getR (n := 2550) pkX18_planAll rfl (g6.cell 0 rfl).1 (g6.cell 0 rfl).2.1 (g6.ref 15 rfl) ?_
                        refine hd_ipush (z := 31) pkX18_planAll rfl ?_
                        refine hd_iload pkX18_planAll rfl rfl ?_
                        refine hd_imul pkX18_planAll rfl (by omega) ?_
                        refine hd_iload pkX18_planAll rfl rfl ?_
                        refine hd_iadd pkX18_planAll rfl (by omega) ?_
                        refine hd_lload pkX18_planAll rfl rfl ?_
                        refine hd_last (n := 961) pkX18_planAll rfl (g6.cell 16 rfl) (by decide) (by omega) (by omega) (fun hh6 ehh6 => ?_)
                        have ghh6 : Str t18c r18c hh6 := by rw [ehh6]; exact g6.setA rfl
                        have o2 : Only [2550] h hh6 := by rw [ehh6]; exact hOM.set List.mem_cons_self
                        have f2 : ∀ j : Int, 0 ≤ j → j ≠ 31 * y + m → ga hh6 2550 j = ga hM 2550 j := fun j a q => by rw [ehh6, ga_sa _ _ _ (by omega) a]; exact if_neg q
                        have g2 : ga hh6 2550 (31 * y + m) = be := by rw [ehh6, ga_sa _ _ _ (by omega) (by omega)]; exact if_pos rfl
                        have c2 : ga hh6 2544 1 = ga hM 2544 1 := by rw [ehh6]; exact ga_ne _ _ _ _ (by decide) _
                        refine hd_iinc (z := 1) pkX18_planAll rfl rfl (by omega) rfl ?_
                        change MW _ _ _ _ _ [(3, (0, (m + 1))), (0, (2, ((2534 : Nat) : Int))), (1, (0, n)), (2, (0, y)), (4, (1, be)), (6, (0, z))] _ _
                        refine hd_goto pkX18_planAll rfl ?_
                        refine m_sub [(0, (2, ((2534 : Nat) : Int))), (1, (0, n)), (2, (0, y)), (3, (0, (m + 1)))] (List.forall_mem_cons.mpr ⟨rfl, List.forall_mem_cons.mpr ⟨rfl, List.forall_mem_cons.mpr ⟨rfl, List.forall_mem_cons.mpr ⟨rfl, fun _ h => absurd h List.not_mem_nil⟩⟩⟩⟩) ?_
                        refine ih6  ((m + 1)) hh6 ghh6 ?_ ?_ ?_ ?_ ?_
                        · exact o2
                        · omega
                        · intro a b a1 a2 b1 b2
                          exact (eyM a b a1 a2 b1 b2).keep (y := y) (m := m) f2 c2 ⟨b1, b2⟩ (by omega) (by omega) (Or.inl a1)
                        · intro b b1 b2
                          by_cases q : b = m
                          · rw [q]
                            intro z0
                            rw [g2] at z0 ⊢
                            obtain ⟨z, z1, z2, z3, z4⟩ := bB (by omega) z0
                            refine ⟨z, z1, z2, ?_, ?_⟩
                            · rw [f2 _ (by omega) (by omega)]
                              exact z3
                            · rw [f2 _ (by omega) (by omega), c2]
                              exact z4
                          · exact (em b b1 (by omega)).keep (y := y) (m := m) f2 c2 ⟨b1, by omega⟩ (by omega) (by omega) (Or.inr q)
                        · omega
                      · skip
                        refine hd_aload pkX18_planAll rfl rfl (Int.natCast_nonneg _) ?_
                        refine hd_getR (n := 2550) pkX18_planAll rfl (g6.cell 0 rfl).1 (g6.cell 0 rfl).2.1 (g6.ref 15 rfl) ?_
                        refine hd_ipush (z := 31) pkX18_planAll rfl ?_
                        refine hd_iload pkX18_planAll rfl rfl ?_
                        refine hd_imul pkX18_planAll rfl (by omega) ?_
                        refine hd_iload pkX18_planAll rfl rfl ?_
                        refine hd_iadd pkX18_planAll rfl (by omega) ?_
                        refine hd_ipush (z := 1) pkX18_planAll rfl ?_
                        refine hd_isub pkX18_planAll rfl (by omega) ?_
                        refine hd_lald (n := 961) pkX18_planAll rfl (g6.cell 16 rfl) (by omega) (by omega) (fun v7 ev7 rv7 => ?_)
                        obtain ⟨bh, qv7⟩ : ∃ x : Int, x = v7 := ⟨_, rfl⟩
                        have ebh : bh = ga hM 2550 (31 * z + (m - 1)) := by rw [qv7, ev7, show 31 * z + (m - 1) = 31 * z + m - 1 by omega]
                        subst qv7
                        refine hd_lstore pkX18_planAll rfl rfl ?_
                        change MW _ _ _ _ _ [(7, (1, bh)), (0, (2, ((2534 : Nat) : Int))), (1, (0, n)), (2, (0, y)), (3, (0, m)), (4, (1, be)), (6, (0, z))] _ _
                        have cut77 : ∀ (al : Int), (0 ≤ al → 0 ≤ bh ∧ wrL (wrL (wrL (ga hM 2544 1 * (z - y)) * (z - y)) + bh) = al) → MW KX18_planAll Q 0 0 (pcA pgX18_planAll 77) [(0, (2, ((2534 : Nat) : Int))), (1, (0, n)), (2, (0, y)), (3, (0, m)), (4, (1, be)), (6, (0, z)), (7, (1, bh))] [(1, al)] hM := by
                          intro al ale
                          refine hd_lstore pkX18_planAll rfl rfl ?_
                          change MW _ _ _ _ _ [(9, (1, al)), (0, (2, ((2534 : Nat) : Int))), (1, (0, n)), (2, (0, y)), (3, (0, m)), (4, (1, be)), (6, (0, z)), (7, (1, bh))] _ _
                          have cut93 : ∀ (nb : Int), (nb = be ∨ (nb = al ∧ 0 ≤ al)) → MW KX18_planAll Q 0 0 (pcA pgX18_planAll 93) [(0, (2, ((2534 : Nat) : Int))), (1, (0, n)), (2, (0, y)), (3, (0, m)), (4, (1, be)), (6, (0, z)), (7, (1, bh)), (9, (1, al))] [(1, nb)] hM := by
                            intro nb nbe
                            refine hd_lstore pkX18_planAll rfl rfl ?_
                            change MW _ _ _ _ _ [(4, (1, nb)), (0, (2, ((2534 : Nat) : Int))), (1, (0, n)), (2, (0, y)), (3, (0, m)), (6, (0, z)), (7, (1, bh)), (9, (1, al))] _ _
                            refine hd_iinc (z := 1) pkX18_planAll rfl rfl (by omega) rfl ?_
                            change MW _ _ _ _ _ [(6, (0, (z + 1))), (4, (1, nb)), (0, (2, ((2534 : Nat) : Int))), (1, (0, n)), (2, (0, y)), (3, (0, m)), (7, (1, bh)), (9, (1, al))] _ _
                            refine hd_goto pkX18_planAll rfl ?_
                            refine m_sub [(0, (2, ((2534 : Nat) : Int))), (1, (0, n)), (2, (0, y)), (3, (0, m)), (4, (1, nb)), (6, (0, (z + 1)))] (List.forall_mem_cons.mpr ⟨rfl, List.forall_mem_cons.mpr ⟨rfl, List.forall_mem_cons.mpr ⟨rfl, List.forall_mem_cons.mpr ⟨rfl, List.forall_mem_cons.mpr ⟨rfl, List.forall_mem_cons.mpr ⟨rfl, fun _ h => absurd h List.not_mem_nil⟩⟩⟩⟩⟩⟩) ?_
                            refine ih39  (nb) ((z + 1)) ?_ ?_ ?_ ?_
                            · omega
                            · intro w w2
                              rcases nbe with q | ⟨q, q2⟩
                              · rw [q] at w2 ⊢
                                exact bB w w2
                              · rw [q]
                                obtain ⟨a1, a2⟩ := ale q2
                                refine ⟨z, z0, by omega, ?_, ?_⟩
                                · rw [← ebh]
                                  exact a1
                                · rw [← ebh]
                                  exact a2
                            · omega
                            · omega
                          refine hd_lload pkX18_planAll rfl rfl ?_
                          refine hd_lpush (z := 0) pkX18_planAll rfl ?_
                          refine hd_lc_lt pkX18_planAll rfl (fun c8 => ?_) (fun c8 => ?_)
                          · skip
                            refine hd_lload pkX18_planAll rfl rfl ?_
                            refine m_sub [(0, (2, ((2534 : Nat) : Int))), (1, (0, n)), (2, (0, y)), (3, (0, m)), (4, (1, be)), (6, (0, z)), (7, (1, bh)), (9, (1, al))] (List.forall_mem_cons.mpr ⟨rfl, List.forall_mem_cons.mpr ⟨rfl, List.forall_mem_cons.mpr ⟨rfl, List.forall_mem_cons.mpr ⟨rfl, List.forall_mem_cons.mpr ⟨rfl, List.forall_mem_cons.mpr ⟨rfl, List.forall_mem_cons.mpr ⟨rfl, List.forall_mem_cons.mpr ⟨rfl, fun _ h => absurd h List.not_mem_nil⟩⟩⟩⟩⟩⟩⟩⟩) ?_
                            refine cut93 (be) ?_
                            · omega
                          · skip
                            refine hd_lload pkX18_planAll rfl rfl ?_
                            refine hd_lpush (z := 0) pkX18_planAll rfl ?_
                            refine hd_lc_lt pkX18_planAll rfl (fun c9 => ?_) (fun c9 => ?_)
                            · skip
                              refine hd_lload pkX18_planAll rfl rfl ?_
                              refine hd_goto pkX18_planAll rfl ?_
                              refine m_sub [(0, (2, ((2534 : Nat) : Int))), (1, (0, n)), (2, (0, y)), (3, (0, m)), (4, (1, be)), (6, (0, z)), (7, (1, bh)), (9, (1, al))] (List.forall_mem_cons.mpr ⟨rfl, List.forall_mem_cons.mpr ⟨rfl, List.forall_mem_cons.mpr ⟨rfl, List.forall_mem_cons.mpr ⟨rfl, List.forall_mem_cons.mpr ⟨rfl, List.forall_mem_cons.mpr ⟨rfl, List.forall_mem_cons.mpr ⟨rfl, List.forall_mem_cons.mpr ⟨rfl, fun _ h => absurd h List.not_mem_nil⟩⟩⟩⟩⟩⟩⟩⟩) ?_
                              refine cut93 (al) ?_
                              · omega
                            · skip
                              refine hd_lload pkX18_planAll rfl rfl ?_
                              refine hd_lload pkX18_planAll rfl rfl ?_
                              refine hd_lc_ge pkX18_planAll rfl (fun c10 => ?_) (fun c10 => ?_)
                              · skip
                                refine hd_lload pkX18_planAll rfl rfl ?_
                                refine m_sub [(0, (2, ((2534 : Nat) : Int))), (1, (0, n)), (2, (0, y)), (3, (0, m)), (4, (1, be)), (6, (0, z)), (7, (1, bh)), (9, (1, al))] (List.forall_mem_cons.mpr ⟨rfl, List.forall_mem_cons.mpr ⟨rfl, List.forall_mem_cons.mpr ⟨rfl, List.forall_mem_cons.mpr ⟨rfl, List.forall_mem_cons.mpr ⟨rfl, List.forall_mem_cons.mpr ⟨rfl, List.forall_mem_cons.mpr ⟨rfl, List.forall_mem_cons.mpr ⟨rfl, fun _ h => absurd h List.not_mem_nil⟩⟩⟩⟩⟩⟩⟩⟩) ?_
                                refine cut93 (be) ?_
                                · omega
                              · skip
                                refine hd_lload pkX18_planAll rfl rfl ?_
                                refine hd_goto pkX18_planAll rfl ?_
                                refine m_sub [(0, (2, ((2534 : Nat) : Int))), (1, (0, n)), (2, (0, y)), (3, (0, m)), (4, (1, be)), (6, (0, z)), (7, (1, bh)), (9, (1, al))] (List.forall_mem_cons.mpr ⟨rfl, List.forall_mem_cons.mpr ⟨rfl, List.forall_mem_cons.mpr ⟨rfl, List.forall_mem_cons.mpr ⟨rfl, List.forall_mem_cons.mpr ⟨rfl, List.forall_mem_cons.mpr ⟨rfl, List.forall_mem_cons.mpr ⟨rfl, List.forall_mem_cons.mpr ⟨rfl, fun _ h => absurd h List.not_mem_nil⟩⟩⟩⟩⟩⟩⟩⟩) ?_
                                refine cut93 (al) ?_
                                · omega
                        refine hd_lload pkX18_planAll rfl rfl ?_
                        refine hd_lpush (z := 0) pkX18_planAll rfl ?_
                        refine hd_lc_ge pkX18_planAll rfl (fun c11 => ?_) (fun c11 => ?_)
                        · skip
                          refine hd_aload pkX18_planAll rfl rfl (Int.natCast_nonneg _) ?_
                          refine hd_getR (n := 2544) pkX18_planAll rfl (g6.cell 0 rfl).1 (g6.cell 0 rfl).2.1 (g6.ref 9 rfl) ?_
                          refine hd_ipush (z := 1) pkX18_planAll rfl ?_
                          refine hd_lald (n := 2) pkX18_planAll rfl (g6.cell 10 rfl) (by omega) (by omega) (fun v12 ev12 rv12 => ?_)
                          have qv12 : ga hM 2544 1 = v12 := ev12.symm
                          subst qv12
                          refine hd_iload pkX18_planAll rfl rfl ?_
                          refine hd_iload pkX18_planAll rfl rfl ?_
                          refine hd_isub pkX18_planAll rfl (by omega) ?_
                          refine hd_i2l pkX18_planAll rfl ?_
                          refine hd_lmulW pkX18_planAll rfl ?_
                          refine hd_iload pkX18_planAll rfl rfl ?_
                          refine hd_iload pkX18_planAll rfl rfl ?_
                          refine hd_isub pkX18_planAll rfl (by omega) ?_
                          refine hd_i2l pkX18_planAll rfl ?_
                          refine hd_lmulW pkX18_planAll rfl ?_
                          refine hd_lload pkX18_planAll rfl rfl ?_
                          refine hd_laddW pkX18_planAll rfl ?_
                          refine m_sub [(0, (2, ((2534 : Nat) : Int))), (1, (0, n)), (2, (0, y)), (3, (0, m)), (4, (1, be)), (6, (0, z)), (7, (1, bh))] (List.forall_mem_cons.mpr ⟨rfl, List.forall_mem_cons.mpr ⟨rfl, List.forall_mem_cons.mpr ⟨rfl, List.forall_mem_cons.mpr ⟨rfl, List.forall_mem_cons.mpr ⟨rfl, List.forall_mem_cons.mpr ⟨rfl, List.forall_mem_cons.mpr ⟨rfl, fun _ h => absurd h List.not_mem_nil⟩⟩⟩⟩⟩⟩⟩) ?_
                          refine cut77 ((wrL ((wrL ((wrL ((ga hM 2544 1) * (z - y))) * (z - y))) + bh))) ?_
                          · intro w
                            first | exact absurd w (by decide) | exact ⟨by omega, rfl⟩
                        · skip
                          refine hd_lpush (z := (-1)) pkX18_planAll rfl ?_
                          refine hd_goto pkX18_planAll rfl ?_
                          refine m_sub [(0, (2, ((2534 : Nat) : Int))), (1, (0, n)), (2, (0, y)), (3, (0, m)), (4, (1, be)), (6, (0, z)), (7, (1, bh))] (List.forall_mem_cons.mpr ⟨rfl, List.forall_mem_cons.mpr ⟨rfl, List.forall_mem_cons.mpr ⟨rfl, List.forall_mem_cons.mpr ⟨rfl, List.forall_mem_cons.mpr ⟨rfl, List.forall_mem_cons.mpr ⟨rfl, List.forall_mem_cons.mpr ⟨rfl, fun _ h => absurd h List.not_mem_nil⟩⟩⟩⟩⟩⟩⟩) ?_
                          refine cut77 ((-1)) ?_
                          · intro w
                            first | exact absurd w (by decide) | exact ⟨by omega, rfl⟩
                refine m_sub [(0, (2, ((2534 : Nat) : Int))), (1, (0, n)), (2, (0, y)), (3, (0, m)), (4, (1, bs)), (6, (0, (y + 1)))] (List.forall_mem_cons.mpr ⟨rfl, List.forall_mem_cons.mpr ⟨rfl, List.forall_mem_cons.mpr ⟨rfl, List.forall_mem_cons.mpr ⟨rfl, List.forall_mem_cons.mpr ⟨rfl, List.forall_mem_cons.mpr ⟨rfl, fun _ h => absurd h List.not_mem_nil⟩⟩⟩⟩⟩⟩) ?_
                refine lp39 (((n : Int) + 40 - ((y + 1))) + 1).toNat (bs) ((y + 1)) ?_ ?_ ?_ ?_
                · omega
                · intro w w2
                  have := b0 w
                  omega
                · omega
                · omega
              refine hd_iload pkX18_planAll rfl rfl ?_
              refine hd_if_ne pkX18_planAll rfl (fun c13 => ?_) (fun c13 => ?_)
              · skip
                refine hd_iload pkX18_planAll rfl rfl ?_
                refine hd_if_ne pkX18_planAll rfl (fun c14 => ?_) (fun c14 => ?_)
                · skip
                  refine hd_lpush (z := (-1)) pkX18_planAll rfl ?_
                  refine cut34 ((-1)) ?_
                  · omega
                · skip
                  refine hd_lpush (z := 0) pkX18_planAll rfl ?_
                  refine hd_goto pkX18_planAll rfl ?_
                  refine cut34 (0) ?_
                  · omega
              · skip
                refine hd_iload pkX18_planAll rfl rfl ?_
                refine hd_iload pkX18_planAll rfl rfl ?_
                refine hd_ic_ge pkX18_planAll rfl (fun c15 => ?_) (fun c15 => ?_)
                · skip
                  refine hd_iload pkX18_planAll rfl rfl ?_
                  refine hd_if_ne pkX18_planAll rfl (fun c16 => ?_) (fun c16 => ?_)
                  · skip
                    refine hd_lpush (z := (-1)) pkX18_planAll rfl ?_
                    refine cut34 ((-1)) ?_
                    · omega
                  · skip
                    refine hd_lpush (z := 0) pkX18_planAll rfl ?_
                    refine hd_goto pkX18_planAll rfl ?_
                    refine cut34 (0) ?_
                    · omega
                · skip
                  refine hd_aload pkX18_planAll rfl rfl (Int.natCast_nonneg _) ?_
                  refine hd_getR (n := 2544) pkX18_planAll rfl (g6.cell 0 rfl).1 (g6.cell 0 rfl).2.1 (g6.ref 9 rfl) ?_
                  refine hd_ipush (z := 1) pkX18_planAll rfl ?_
                  refine hd_lald (n := 2) pkX18_planAll rfl (g6.cell 10 rfl) (by omega) (by omega) (fun v17 ev17 rv17 => ?_)
                  have qv17 : ga hM 2544 1 = v17 := ev17.symm
                  subst qv17
                  refine hd_iload pkX18_planAll rfl rfl ?_
                  refine hd_iload pkX18_planAll rfl rfl ?_
                  refine hd_isub pkX18_planAll rfl (by omega) ?_
                  refine hd_i2l pkX18_planAll rfl ?_
                  refine hd_lmulW pkX18_planAll rfl ?_
                  refine hd_iload pkX18_planAll rfl rfl ?_
                  refine hd_iload pkX18_planAll rfl rfl ?_
                  refine hd_isub pkX18_planAll rfl (by omega) ?_
                  refine hd_i2l pkX18_planAll rfl ?_
                  refine hd_lmulW pkX18_planAll rfl ?_
                  refine hd_goto pkX18_planAll rfl ?_
                  refine cut34 ((wrL ((wrL ((ga hM 2544 1) * (n - y))) * (n - y)))) ?_
                  · omega
        refine m_sub [(0, (2, ((2534 : Nat) : Int))), (1, (0, n)), (2, (0, y)), (3, (0, 0))] (List.forall_mem_cons.mpr ⟨rfl, List.forall_mem_cons.mpr ⟨rfl, List.forall_mem_cons.mpr ⟨rfl, List.forall_mem_cons.mpr ⟨rfl, fun _ h => absurd h List.not_mem_nil⟩⟩⟩⟩) ?_
        refine lp6 (((31 : Int) - (0)) + 1).toNat (0) hY g2 ?_ ?_ ?_ ?_ ?_
        · exact hO
        · omega
        · exact ey
        · intro b b1 b2
          omega
        · omega
  refine m_sub [(0, (2, ((2534 : Nat) : Int))), (1, (0, n)), (2, (0, n))] (List.forall_mem_cons.mpr ⟨rfl, List.forall_mem_cons.mpr ⟨rfl, List.forall_mem_cons.mpr ⟨rfl, fun _ h => absurd h List.not_mem_nil⟩⟩⟩) ?_
  refine lp2 ((((n) : Int) + 1) + 1).toNat (n) h g ?_ ?_ ?_ ?_
  · exact Only.refl _ _
  · omega
  · intro a b a1 a2
    omega
  · omega
set_option maxRecDepth 20000 in
set_option maxHeartbeats 8000000 in
theorem h_X18_inspect {h : MH} {n : Int} (g : Str t18c r18c h) : MCal KX18_inspect yX18_inspect 0 0 [(2, ((2534 : Nat) : Int)), (0, n)] h (mRI fun _ h' => Only [2550] h h') := by
  refine MCal.ofMW (Or.inl rfl) ⟨cp_X18, rfl⟩ (Nat.le_of_ble_eq_true rfl) ?_
  generalize eQ : (mRI fun _ h' => Only [2550] h h' : MO → MH → Prop) = Q
  change MW KX18_inspect Q 0 0 (pcA pgX18_inspect 0) [(0, (2, ((2534 : Nat) : Int))), (1, (0, n))] [] h
  refine hd_locI (i := 1) rfl (fun rn => ?_)
  refine hd_iload pkX18_inspect rfl rfl ?_
  refine hd_ipush (z := 1) pkX18_inspect rfl ?_
  refine hd_ic_lt pkX18_inspect rfl (fun c1 => ?_) (fun c1 => ?_)
  · skip
    refine hd_ipush (z := (-1)) pkX18_inspect rfl ?_
    refine hd_iret pkX18_inspect rfl ?_
    subst eQ
    exact ⟨rfl, rfl, Only.refl _ _⟩
  · skip
    refine hd_iload pkX18_inspect rfl rfl ?_
    refine hd_ipush (z := 30) pkX18_inspect rfl ?_
    refine hd_ic_le pkX18_inspect rfl (fun c2 => ?_) (fun c2 => ?_)
    · skip
      refine hd_aload pkX18_inspect rfl rfl (Int.natCast_nonneg _) ?_
      refine hd_iload pkX18_inspect rfl rfl ?_
      refine hd_callV pkX18_inspect rfl (q := (KX18_planAll, yX18_planAll, 18, 1, 0)) rfl rfl rfl (As := [(0, n)]) (rest := []) (c := 2534) rfl rfl (Nat.le_of_ble_eq_true rfl) (g.cell 0 rfl).1 (g.cell 0 rfl).2.1 (h_X18_planAll (n := n) (by omega) g) (hd_bV (fun hc3 pp => ?_))
      have ghc3 : Str t18c r18c hc3 := g.only pp.1 (by decide)
      obtain ⟨hP, ehP⟩ : ∃ x : MH, x = hc3 := ⟨_, rfl⟩
      have E := pp.2
      refine hd_ipush (z := 0) pkX18_inspect rfl ?_
      refine hd_istore pkX18_inspect rfl rfl ?_
      change MW _ _ _ _ _ [(2, (0, 0)), (0, (2, ((2534 : Nat) : Int))), (1, (0, n))] _ _
      refine hd_ipush (z := 1) pkX18_inspect rfl ?_
      refine hd_istore pkX18_inspect rfl rfl ?_
      change MW _ _ _ _ _ [(3, (0, 1)), (2, (0, 0)), (0, (2, ((2534 : Nat) : Int))), (1, (0, n))] _ _
      have lp15 : ∀ (N15 : Nat) (mn k : Int), (1 ≤ k ∧ k ≤ 30) → (mn = 0 ∨ (1 ≤ mn ∧ mn < n ∧ 0 ≤ ga hc3 2550 mn)) → (40 : Int) - k < (N15 : Int) → MW KX18_inspect Q 0 0 (pcA pgX18_inspect 15) [(0, (2, ((2534 : Nat) : Int))), (1, (0, n)), (2, (0, mn)), (3, (0, k))] [] hc3 := by
        intro N15
        induction N15 with
        | zero => intro mn k k0 mn0 hm15; exfalso; omega
        | succ N15 ih15 =>
          intro mn k k0 mn0 hm15
          refine hd_iload pkX18_inspect rfl rfl ?_
          refine hd_iload pkX18_inspect rfl rfl ?_
          refine hd_ic_ge pkX18_inspect rfl (fun c4 => ?_) (fun c4 => ?_)
          · skip
            refine hd_ipush (z := 0) pkX18_inspect rfl ?_
            refine hd_istore pkX18_inspect rfl rfl ?_
            change MW _ _ _ _ _ [(3, (0, 0)), (0, (2, ((2534 : Nat) : Int))), (1, (0, n)), (2, (0, mn))] _ _
            refine hd_ipush (z := 0) pkX18_inspect rfl ?_
            refine hd_istore pkX18_inspect rfl rfl ?_
            change MW _ _ _ _ _ [(4, (0, 0)), (3, (0, 0)), (0, (2, ((2534 : Nat) : Int))), (1, (0, n)), (2, (0, mn))] _ _
            refine hd_iload pkX18_inspect rfl rfl ?_
            refine hd_istore pkX18_inspect rfl rfl ?_
            change MW _ _ _ _ _ [(5, (0, mn)), (4, (0, 0)), (3, (0, 0)), (0, (2, ((2534 : Nat) : Int))), (1, (0, n)), (2, (0, mn))] _ _
            have lp63 : ∀ (N63 : Nat) (pl y m : Int), (0 ≤ m ∧ m ≤ 30) → (0 ≤ y ∧ y < n) → (m = 0 ∨ 0 ≤ ga hc3 2550 (31 * y + m)) → m < (N63 : Int) → MW KX18_inspect Q 0 0 (pcA pgX18_inspect 63) [(0, (2, ((2534 : Nat) : Int))), (1, (0, n)), (2, (0, mn)), (3, (0, pl)), (4, (0, y)), (5, (0, m))] [] hc3 := by
              intro N63
              induction N63 with
              | zero => intro pl y m m0 y0 my hm63; exfalso; omega
              | succ N63 ih63 =>
                intro pl y m m0 y0 my hm63
                refine hd_iload pkX18_inspect rfl rfl ?_
                refine hd_if_le pkX18_inspect rfl (fun c5 => ?_) (fun c5 => ?_)
                · skip
                  refine hd_iload pkX18_inspect rfl rfl ?_
                  refine hd_iret pkX18_inspect rfl ?_
                  subst eQ
                  exact ⟨rfl, rfl, pp.1⟩
                · skip
                  obtain ⟨zs, s1, s2, s3, s4⟩ := E y m y0.1 (by omega) (by omega) (by omega) (my.resolve_left (by omega))
                  refine hd_iload pkX18_inspect rfl rfl ?_
                  refine hd_ipush (z := 1) pkX18_inspect rfl ?_
                  refine hd_iadd pkX18_inspect rfl (by omega) ?_
                  refine hd_istore pkX18_inspect rfl rfl ?_
                  change MW _ _ _ _ _ [(6, (0, (y + 1))), (0, (2, ((2534 : Nat) : Int))), (1, (0, n)), (2, (0, mn)), (3, (0, pl)), (4, (0, y)), (5, (0, m))] _ _
                  have lp69 : ∀ (N69 : Nat) (z : Int), (y < z ∧ z ≤ zs) → zs - z < (N69 : Int) → MW KX18_inspect Q 0 0 (pcA pgX18_inspect 69) [(0, (2, ((2534 : Nat) : Int))), (1, (0, n)), (2, (0, mn)), (3, (0, pl)), (4, (0, y)), (5, (0, m)), (6, (0, z))] [] hc3 := by
                    intro N69
                    induction N69 with
                    | zero => intro z z0 hm69; exfalso; omega
                    | succ N69 ih69 =>
                      intro z z0 hm69
                      refine hd_aload pkX18_inspect rfl rfl (Int.natCast_nonneg _) ?_
                      refine hd_getR (n := 2550) pkX18_inspect rfl (ghc3.cell 0 rfl).1 (ghc3.cell 0 rfl).2.1 (ghc3.ref 15 rfl) ?_
                      refine hd_ipush (z := 31) pkX18_inspect rfl ?_
                      refine hd_iload pkX18_inspect rfl rfl ?_
                      refine hd_imul pkX18_inspect rfl (by omega) ?_
                      refine hd_iload pkX18_inspect rfl rfl ?_
                      refine hd_iadd pkX18_inspect rfl (by omega) ?_
                      refine hd_ipush (z := 1) pkX18_inspect rfl ?_
                      refine hd_isub pkX18_inspect rfl (by omega) ?_
                      refine hd_lald (n := 961) pkX18_inspect rfl (ghc3.cell 16 rfl) (by omega) (by omega) (fun v6 ev6 rv6 => ?_)
                      have qv6 : ga hc3 2550 (31 * z + (m - 1)) = v6 := by rw [ev6, show 31 * z + (m - 1) = 31 * z + m - 1 by omega]
                      subst qv6
                      refine hd_lpush (z := 0) pkX18_inspect rfl ?_
                      refine hd_lc_lt pkX18_inspect rfl (fun c7 => ?_) (fun c7 => ?_)
                      · skip
                        refine hd_iinc (z := 1) pkX18_inspect rfl rfl (by omega) rfl ?_
                        change MW _ _ _ _ _ [(6, (0, (z + 1))), (0, (2, ((2534 : Nat) : Int))), (1, (0, n)), (2, (0, mn)), (3, (0, pl)), (4, (0, y)), (5, (0, m))] _ _
                        refine hd_goto pkX18_inspect rfl ?_
                        refine m_sub [(0, (2, ((2534 : Nat) : Int))), (1, (0, n)), (2, (0, mn)), (3, (0, pl)), (4, (0, y)), (5, (0, m)), (6, (0, (z + 1)))] (List.forall_mem_cons.mpr ⟨rfl, List.forall_mem_cons.mpr ⟨rfl, List.forall_mem_cons.mpr ⟨rfl, List.forall_mem_cons.mpr ⟨rfl, List.forall_mem_cons.mpr ⟨rfl, List.forall_mem_cons.mpr ⟨rfl, List.forall_mem_cons.mpr ⟨rfl, fun _ h => absurd h List.not_mem_nil⟩⟩⟩⟩⟩⟩⟩) ?_
                        refine ih69  ((z + 1)) ?_ ?_
                        · refine ⟨by omega, ?_⟩
                          have : ¬ z = zs := fun w => by
                            subst w
                            omega
                          omega
                        · omega
                      · skip
                        refine hd_aload pkX18_inspect rfl rfl (Int.natCast_nonneg _) ?_
                        refine hd_getR (n := 2544) pkX18_inspect rfl (ghc3.cell 0 rfl).1 (ghc3.cell 0 rfl).2.1 (ghc3.ref 9 rfl) ?_
                        refine hd_ipush (z := 1) pkX18_inspect rfl ?_
                        refine hd_lald (n := 2) pkX18_inspect rfl (ghc3.cell 10 rfl) (by omega) (by omega) (fun v8 ev8 rv8 => ?_)
                        have qv8 : ga hc3 2544 1 = v8 := ev8.symm
                        subst qv8
                        refine hd_iload pkX18_inspect rfl rfl ?_
                        refine hd_iload pkX18_inspect rfl rfl ?_
                        refine hd_isub pkX18_inspect rfl (by omega) ?_
                        refine hd_i2l pkX18_inspect rfl ?_
                        refine hd_lmulW pkX18_inspect rfl ?_
                        refine hd_iload pkX18_inspect rfl rfl ?_
                        refine hd_iload pkX18_inspect rfl rfl ?_
                        refine hd_isub pkX18_inspect rfl (by omega) ?_
                        refine hd_i2l pkX18_inspect rfl ?_
                        refine hd_lmulW pkX18_inspect rfl ?_
                        refine hd_aload pkX18_inspect rfl rfl (Int.natCast_nonneg _) ?_
                        refine hd_getR (n := 2550) pkX18_inspect rfl (ghc3.cell 0 rfl).1 (ghc3.cell 0 rfl).2.1 (ghc3.ref 15 rfl) ?_
                        refine hd_ipush (z := 31) pkX18_inspect rfl ?_
                        refine hd_iload pkX18_inspect rfl rfl ?_
                        refine hd_imul pkX18_inspect rfl (by omega) ?_
                        refine hd_iload pkX18_inspect rfl rfl ?_
                        refine hd_iadd pkX18_inspect rfl (by omega) ?_
                        refine hd_ipush (z := 1) pkX18_inspect rfl ?_
                        refine hd_isub pkX18_inspect rfl (by omega) ?_
                        refine hd_lald (n := 961) pkX18_inspect rfl (ghc3.cell 16 rfl) (by omega) (by omega) (fun v9 ev9 rv9 => ?_)
                        have qv9 : ga hc3 2550 (31 * z + (m - 1)) = v9 := by rw [ev9, show 31 * z + (m - 1) = 31 * z + m - 1 by omega]
                        subst qv9
                        refine hd_laddW pkX18_inspect rfl ?_
                        refine hd_aload pkX18_inspect rfl rfl (Int.natCast_nonneg _) ?_
                        refine hd_getR (n := 2550) pkX18_inspect rfl (ghc3.cell 0 rfl).1 (ghc3.cell 0 rfl).2.1 (ghc3.ref 15 rfl) ?_
                        refine hd_ipush (z := 31) pkX18_inspect rfl ?_
                        refine hd_iload pkX18_inspect rfl rfl ?_
                        refine hd_imul pkX18_inspect rfl (by omega) ?_
                        refine hd_iload pkX18_inspect rfl rfl ?_
                        refine hd_iadd pkX18_inspect rfl (by omega) ?_
                        refine hd_lald (n := 961) pkX18_inspect rfl (ghc3.cell 16 rfl) (by omega) (by omega) (fun v10 ev10 rv10 => ?_)
                        have qv10 : ga hc3 2550 (31 * y + m) = v10 := ev10.symm
                        subst qv10
                        refine hd_lc_eq pkX18_inspect rfl (fun c11 => ?_) (fun c11 => ?_)
                        · skip
                          have pz : 0 ≤ ga hc3 2550 (31 * z + (m - 1)) := by omega
                          refine hd_iload pkX18_inspect rfl rfl ?_
                          refine hd_ipush (z := 1) pkX18_inspect rfl ?_
                          refine hd_iload pkX18_inspect rfl rfl ?_
                          refine hd_ishl (v := ((Int32.ofInt 1 <<< (Int32.ofInt z &&& 31)).toInt)) pkX18_inspect rfl (by rfl) ?_
                          refine hd_iaddW pkX18_inspect rfl ?_
                          refine hd_istore pkX18_inspect rfl rfl ?_
                          change MW _ _ _ _ _ [(3, (0, (wrI (pl + ((Int32.ofInt 1 <<< (Int32.ofInt z &&& 31)).toInt))))), (0, (2, ((2534 : Nat) : Int))), (1, (0, n)), (2, (0, mn)), (4, (0, y)), (5, (0, m)), (6, (0, z))] _ _
                          refine hd_iload pkX18_inspect rfl rfl ?_
                          refine hd_istore pkX18_inspect rfl rfl ?_
                          change MW _ _ _ _ _ [(4, (0, z)), (3, (0, (wrI (pl + ((Int32.ofInt 1 <<< (Int32.ofInt z &&& 31)).toInt))))), (0, (2, ((2534 : Nat) : Int))), (1, (0, n)), (2, (0, mn)), (5, (0, m)), (6, (0, z))] _ _
                          refine hd_iinc (z := (-1)) pkX18_inspect rfl rfl (by omega) rfl ?_
                          change MW _ _ _ _ _ [(5, (0, (m + (-1)))), (4, (0, z)), (3, (0, (wrI (pl + ((Int32.ofInt 1 <<< (Int32.ofInt z &&& 31)).toInt))))), (0, (2, ((2534 : Nat) : Int))), (1, (0, n)), (2, (0, mn)), (6, (0, z))] _ _
                          refine hd_goto pkX18_inspect rfl ?_
                          refine m_sub [(0, (2, ((2534 : Nat) : Int))), (1, (0, n)), (2, (0, mn)), (3, (0, (wrI (pl + ((Int32.ofInt 1 <<< (Int32.ofInt z &&& 31)).toInt))))), (4, (0, z)), (5, (0, (m + (-1))))] (List.forall_mem_cons.mpr ⟨rfl, List.forall_mem_cons.mpr ⟨rfl, List.forall_mem_cons.mpr ⟨rfl, List.forall_mem_cons.mpr ⟨rfl, List.forall_mem_cons.mpr ⟨rfl, List.forall_mem_cons.mpr ⟨rfl, fun _ h => absurd h List.not_mem_nil⟩⟩⟩⟩⟩⟩) ?_
                          refine ih63  ((wrI (pl + ((Int32.ofInt 1 <<< (Int32.ofInt z &&& 31)).toInt)))) (z) ((m + (-1))) ?_ ?_ ?_ ?_
                          · omega
                          · omega
                          · right
                            exact pz
                          · omega
                        · skip
                          refine hd_iinc (z := 1) pkX18_inspect rfl rfl (by omega) rfl ?_
                          change MW _ _ _ _ _ [(6, (0, (z + 1))), (0, (2, ((2534 : Nat) : Int))), (1, (0, n)), (2, (0, mn)), (3, (0, pl)), (4, (0, y)), (5, (0, m))] _ _
                          refine hd_goto pkX18_inspect rfl ?_
                          refine m_sub [(0, (2, ((2534 : Nat) : Int))), (1, (0, n)), (2, (0, mn)), (3, (0, pl)), (4, (0, y)), (5, (0, m)), (6, (0, (z + 1)))] (List.forall_mem_cons.mpr ⟨rfl, List.forall_mem_cons.mpr ⟨rfl, List.forall_mem_cons.mpr ⟨rfl, List.forall_mem_cons.mpr ⟨rfl, List.forall_mem_cons.mpr ⟨rfl, List.forall_mem_cons.mpr ⟨rfl, List.forall_mem_cons.mpr ⟨rfl, fun _ h => absurd h List.not_mem_nil⟩⟩⟩⟩⟩⟩⟩) ?_
                          refine ih69  ((z + 1)) ?_ ?_
                          · refine ⟨by omega, ?_⟩
                            have : ¬ z = zs := fun w => by
                              subst w
                              omega
                            omega
                          · omega
                  refine m_sub [(0, (2, ((2534 : Nat) : Int))), (1, (0, n)), (2, (0, mn)), (3, (0, pl)), (4, (0, y)), (5, (0, m)), (6, (0, (y + 1)))] (List.forall_mem_cons.mpr ⟨rfl, List.forall_mem_cons.mpr ⟨rfl, List.forall_mem_cons.mpr ⟨rfl, List.forall_mem_cons.mpr ⟨rfl, List.forall_mem_cons.mpr ⟨rfl, List.forall_mem_cons.mpr ⟨rfl, List.forall_mem_cons.mpr ⟨rfl, fun _ h => absurd h List.not_mem_nil⟩⟩⟩⟩⟩⟩⟩) ?_
                  refine lp69 ((zs - ((y + 1))) + 1).toNat ((y + 1)) ?_ ?_
                  · omega
                  · omega
            refine m_sub [(0, (2, ((2534 : Nat) : Int))), (1, (0, n)), (2, (0, mn)), (3, (0, 0)), (4, (0, 0)), (5, (0, mn))] (List.forall_mem_cons.mpr ⟨rfl, List.forall_mem_cons.mpr ⟨rfl, List.forall_mem_cons.mpr ⟨rfl, List.forall_mem_cons.mpr ⟨rfl, List.forall_mem_cons.mpr ⟨rfl, List.forall_mem_cons.mpr ⟨rfl, fun _ h => absurd h List.not_mem_nil⟩⟩⟩⟩⟩⟩) ?_
            refine lp63 (((mn)) + 1).toNat (0) (0) (mn) ?_ ?_ ?_ ?_
            · omega
            · omega
            · rcases mn0 with q | ⟨q, q2, q3⟩
              · exact Or.inl q
              · right
                rw [show 31 * (0 : Int) + mn = mn by omega]
                exact q3
            · omega
          · skip
            have cut54 : ∀ (nm : Int), (nm = mn ∨ (nm = k ∧ 0 ≤ ga hc3 2550 k)) → MW KX18_inspect Q 0 0 (pcA pgX18_inspect 54) [(0, (2, ((2534 : Nat) : Int))), (1, (0, n)), (2, (0, mn)), (3, (0, k))] [(0, nm)] hc3 := by
              intro nm nme
              refine hd_istore pkX18_inspect rfl rfl ?_
              change MW _ _ _ _ _ [(2, (0, nm)), (0, (2, ((2534 : Nat) : Int))), (1, (0, n)), (3, (0, k))] _ _
              refine hd_iinc (z := 1) pkX18_inspect rfl rfl (by omega) rfl ?_
              change MW _ _ _ _ _ [(3, (0, (k + 1))), (2, (0, nm)), (0, (2, ((2534 : Nat) : Int))), (1, (0, n))] _ _
              refine hd_goto pkX18_inspect rfl ?_
              refine m_sub [(0, (2, ((2534 : Nat) : Int))), (1, (0, n)), (2, (0, nm)), (3, (0, (k + 1)))] (List.forall_mem_cons.mpr ⟨rfl, List.forall_mem_cons.mpr ⟨rfl, List.forall_mem_cons.mpr ⟨rfl, List.forall_mem_cons.mpr ⟨rfl, fun _ h => absurd h List.not_mem_nil⟩⟩⟩⟩) ?_
              refine ih15  (nm) ((k + 1)) ?_ ?_ ?_
              · omega
              · rcases nme with q | ⟨q, q2⟩
                · rw [q]
                  exact mn0
                · right
                  rw [q]
                  exact ⟨k0.1, by omega, q2⟩
              · omega
            refine hd_aload pkX18_inspect rfl rfl (Int.natCast_nonneg _) ?_
            refine hd_getR (n := 2550) pkX18_inspect rfl (ghc3.cell 0 rfl).1 (ghc3.cell 0 rfl).2.1 (ghc3.ref 15 rfl) ?_
            refine hd_iload pkX18_inspect rfl rfl ?_
            refine hd_lald (n := 961) pkX18_inspect rfl (ghc3.cell 16 rfl) (by omega) (by omega) (fun v12 ev12 rv12 => ?_)
            have qv12 : ga hc3 2550 k = v12 := ev12.symm
            subst qv12
            refine hd_lpush (z := 0) pkX18_inspect rfl ?_
            refine hd_lc_lt pkX18_inspect rfl (fun c13 => ?_) (fun c13 => ?_)
            · skip
              refine hd_iload pkX18_inspect rfl rfl ?_
              refine cut54 (mn) ?_
              · first | exact Or.inl rfl | exact Or.inr ⟨rfl, by omega⟩
            · skip
              refine hd_aload pkX18_inspect rfl rfl (Int.natCast_nonneg _) ?_
              refine hd_getR (n := 2550) pkX18_inspect rfl (ghc3.cell 0 rfl).1 (ghc3.cell 0 rfl).2.1 (ghc3.ref 15 rfl) ?_
              refine hd_iload pkX18_inspect rfl rfl ?_
              refine hd_lald (n := 961) pkX18_inspect rfl (ghc3.cell 16 rfl) (by omega) (by omega) (fun v14 ev14 rv14 => ?_)
              refine hd_iload pkX18_inspect rfl rfl ?_
              refine hd_i2l pkX18_inspect rfl ?_
              refine hd_aload pkX18_inspect rfl rfl (Int.natCast_nonneg _) ?_
              refine hd_getR (n := 2544) pkX18_inspect rfl (ghc3.cell 0 rfl).1 (ghc3.cell 0 rfl).2.1 (ghc3.ref 9 rfl) ?_
              refine hd_ipush (z := 0) pkX18_inspect rfl ?_
              refine hd_lald (n := 2) pkX18_inspect rfl (ghc3.cell 10 rfl) (by omega) (by omega) (fun v15 ev15 rv15 => ?_)
              refine hd_lmulW pkX18_inspect rfl ?_
              refine hd_laddW pkX18_inspect rfl ?_
              refine hd_aload pkX18_inspect rfl rfl (Int.natCast_nonneg _) ?_
              refine hd_getR (n := 2550) pkX18_inspect rfl (ghc3.cell 0 rfl).1 (ghc3.cell 0 rfl).2.1 (ghc3.ref 15 rfl) ?_
              refine hd_iload pkX18_inspect rfl rfl ?_
              refine hd_lald (n := 961) pkX18_inspect rfl (ghc3.cell 16 rfl) (by omega) (by omega) (fun v16 ev16 rv16 => ?_)
              refine hd_iload pkX18_inspect rfl rfl ?_
              refine hd_i2l pkX18_inspect rfl ?_
              refine hd_aload pkX18_inspect rfl rfl (Int.natCast_nonneg _) ?_
              refine hd_getR (n := 2544) pkX18_inspect rfl (ghc3.cell 0 rfl).1 (ghc3.cell 0 rfl).2.1 (ghc3.ref 9 rfl) ?_
              refine hd_ipush (z := 0) pkX18_inspect rfl ?_
              refine hd_lald (n := 2) pkX18_inspect rfl (ghc3.cell 10 rfl) (by omega) (by omega) (fun v17 ev17 rv17 => ?_)
              refine hd_lmulW pkX18_inspect rfl ?_
              refine hd_laddW pkX18_inspect rfl ?_
              refine hd_lc_ge pkX18_inspect rfl (fun c18 => ?_) (fun c18 => ?_)
              · skip
                refine hd_iload pkX18_inspect rfl rfl ?_
                refine cut54 (mn) ?_
                · first | exact Or.inl rfl | exact Or.inr ⟨rfl, by omega⟩
              · skip
                refine hd_iload pkX18_inspect rfl rfl ?_
                refine hd_goto pkX18_inspect rfl ?_
                refine cut54 (k) ?_
                · first | exact Or.inl rfl | exact Or.inr ⟨rfl, by omega⟩
      refine m_sub [(0, (2, ((2534 : Nat) : Int))), (1, (0, n)), (2, (0, 0)), (3, (0, 1))] (List.forall_mem_cons.mpr ⟨rfl, List.forall_mem_cons.mpr ⟨rfl, List.forall_mem_cons.mpr ⟨rfl, List.forall_mem_cons.mpr ⟨rfl, fun _ h => absurd h List.not_mem_nil⟩⟩⟩⟩) ?_
      refine lp15 (((40 : Int) - (1)) + 1).toNat (0) (1) ?_ ?_ ?_
      · omega
      · omega
      · omega
    · skip
      refine hd_ipush (z := (-1)) pkX18_inspect rfl ?_
      refine hd_iret pkX18_inspect rfl ?_
      subst eQ
      exact ⟨rfl, rfl, Only.refl _ _⟩
