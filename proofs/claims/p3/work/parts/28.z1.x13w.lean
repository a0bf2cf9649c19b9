/-! X13 by hand: its methods -/
abbrev t13c : List (Nat × Nat × Nat) := [(2468, 29, 0), (2469, 0, 8), (2470, 0, 8), (2471, 0, 8), (2472, 0, 8), (2473, 0, 4), (2474, 0, 4), (2475, 0, 8), (2476, 0, 8), (2477, 0, 8), (2478, 0, 6), (2479, 0, 6), (2480, 0, 6), (2481, 2, 72), (2482, 1, 4), (2483, 1, 4), (2484, 2, 32), (2485, 1, 12), (2486, 0, 140), (2487, 0, 140), (2488, 1, 140), (2489, 1, 140), (2490, 1, 140), (2491, 2, 140), (2492, 1, 34), (2493, 0, 34), (2494, 1, 96)]
abbrev r13c : List (Nat × Nat × Nat) := [(2468, 2, 2469), (2468, 3, 2470), (2468, 4, 2471), (2468, 5, 2472), (2468, 7, 2473), (2468, 8, 2474), (2468, 10, 2475), (2468, 11, 2476), (2468, 12, 2477), (2468, 14, 2478), (2468, 15, 2479), (2468, 16, 2480), (2468, 17, 2481), (2468, 18, 2482), (2468, 19, 2483), (2468, 20, 2484), (2468, 21, 2485), (2468, 23, 2486), (2468, 24, 2487), (2468, 25, 2488), (2468, 26, 2489), (2468, 27, 2490), (2468, 28, 2491), (2468, 29, 2492), (2468, 30, 2493), (2468, 37, 2494)]
set_option maxRecDepth 20000 in
set_option maxHeartbeats 8000000 in
theorem h_X13_walk {h : MH} {fr wo : Int} {π : Int → Int} (nr : NR13 (N13 h wo)) (pv : PV13 (N13 h wo) π) (hf : 0 ≤ fr ∧ fr ≤ 33) (g : Str t13c r13c h) : MCal KX13_walk yX13_walk 0 0 [(2, ((2468 : Nat) : Int)), (0, fr), (0, wo)] h (mRV fun h' => Only [2492, 2493] h h' ∧ WI13 (N13 h wo) π fr (ga h' 2492) (ga h' 2493) ∧ FX13 (N13 h wo) (ga h' 2492)) := by
  refine MCal.ofMW (Or.inl rfl) ⟨cp_X13, rfl⟩ (Nat.le_of_ble_eq_true rfl) ?_
  generalize eQ : (mRV fun h' => Only [2492, 2493] h h' ∧ WI13 (N13 h wo) π fr (ga h' 2492) (ga h' 2493) ∧ FX13 (N13 h wo) (ga h' 2492) : MO → MH → Prop) = Q
  change MW KX13_walk Q 0 0 (pcA pgX13_walk 0) [(0, (2, ((2468 : Nat) : Int))), (1, (0, fr)), (2, (0, wo))] [] h
  refine hd_locI (i := 1) rfl (fun rfr => ?_)
  refine hd_locI (i := 2) rfl (fun rwo => ?_)
  obtain ⟨na, ena⟩ : ∃ x : Int, x = ga h 2468 22 := ⟨_, rfl⟩
  have nab : 0 ≤ na ∧ na ≤ 140 := by rw [ena]; exact nr.1
  refine hd_ipush (z := 0) pkX13_walk rfl ?_
  refine hd_istore pkX13_walk rfl rfl ?_
  change MW _ _ _ _ _ [(3, (0, 0)), (0, (2, ((2468 : Nat) : Int))), (1, (0, fr)), (2, (0, wo))] _ _
  have lp2 : ∀ (N2 : Nat) (k : Int) (hI : MH), Str t13c r13c hI → (Only [2492, 2493] h hI) → (0 ≤ k ∧ k ≤ 34) → (∀ v : Int, 0 ≤ v → v < k → ga hI 2492 v = 1125899906842624 ∧ ga hI 2493 v = 0) → (34 : Int) - k < (N2 : Int) → MW KX13_walk Q 0 0 (pcA pgX13_walk 2) [(0, (2, ((2468 : Nat) : Int))), (1, (0, fr)), (2, (0, wo)), (3, (0, k))] [] hI := by
    intro N2
    induction N2 with
    | zero => intro k hI g2 hO k0 zz hm2; exfalso; omega
    | succ N2 ih2 =>
      intro k hI g2 hO k0 zz hm2
      refine hd_iload pkX13_walk rfl rfl ?_
      refine hd_ipush (z := 34) pkX13_walk rfl ?_
      refine hd_ic_ge pkX13_walk rfl (fun c1 => ?_) (fun c1 => ?_)
      · skip
        refine hd_aload pkX13_walk rfl rfl (Int.natCast_nonneg _) ?_
        refine hd_getR (n := 2492) pkX13_walk rfl (g2.cell 0 rfl).1 (g2.cell 0 rfl).2.1 (g2.ref 23 rfl) ?_
        refine hd_iload pkX13_walk rfl rfl ?_
        refine hd_lpush (z := 0) pkX13_walk rfl ?_
        refine hd_last (n := 34) pkX13_walk rfl (g2.cell 24 rfl) (by decide) (by omega) (by omega) (fun hh2 ehh2 => ?_)
        have ghh2 : Str t13c r13c hh2 := by rw [ehh2]; exact g2.setA rfl
        have o3 : Only [2492, 2493] h hh2 := by rw [ehh2]; exact hO.set (by decide)
        have wi : WI13 (N13 h wo) π fr (ga hh2 2492) (ga hh2 2493) := WI13.ini (fun v a b => by rw [ehh2, ga_sa _ _ _ hf.1 a, (zz v a (by omega)).1]; rfl) (fun v a b => by rw [ehh2, ga_ne _ _ _ _ (by decide)]; exact (zz v a (by omega)).2) hf
        refine hd_ipush (z := 1) pkX13_walk rfl ?_
        refine hd_istore pkX13_walk rfl rfl ?_
        change MW _ _ _ _ _ [(3, (0, 1)), (0, (2, ((2468 : Nat) : Int))), (1, (0, fr)), (2, (0, wo))] _ _
        have lp24 : ∀ (N24 : Nat) (m : Int) (hW : MH), Str t13c r13c hW → (Only [2492, 2493] h hW) → (WI13 (N13 h wo) π fr (ga hW 2492) (ga hW 2493)) → (m = 1 ∨ (m = 0 ∧ FX13 (N13 h wo) (ga hW 2492))) → 2 * (sm12 (ga hW 2492) 34 + 400000000) + m < (N24 : Int) → MW KX13_walk Q 0 0 (pcA pgX13_walk 24) [(0, (2, ((2468 : Nat) : Int))), (1, (0, fr)), (2, (0, wo)), (3, (0, m))] [] hW := by
          intro N24
          induction N24 with
          | zero => intro m hW g24 hO wi mm hm24; exfalso; have := wi.sm nr; omega
          | succ N24 ih24 =>
            intro m hW g24 hO wi mm hm24
            refine hd_iload pkX13_walk rfl rfl ?_
            refine hd_if_eq pkX13_walk rfl (fun c3 => ?_) (fun c3 => ?_)
            · skip
              refine hd_vret pkX13_walk rfl ?_
              subst eQ
              exact ⟨rfl, hO, wi, (mm.resolve_left (by omega)).2⟩
            · skip
              refine hd_ipush (z := 0) pkX13_walk rfl ?_
              refine hd_istore pkX13_walk rfl rfl ?_
              change MW _ _ _ _ _ [(3, (0, 0)), (0, (2, ((2468 : Nat) : Int))), (1, (0, fr)), (2, (0, wo))] _ _
              refine hd_ipush (z := 0) pkX13_walk rfl ?_
              refine hd_istore pkX13_walk rfl rfl ?_
              change MW _ _ _ _ _ [(4, (0, 0)), (3, (0, 0)), (0, (2, ((2468 : Nat) : Int))), (1, (0, fr)), (2, (0, wo))] _ _
              have lp30 : ∀ (N30 : Nat) (m e : Int) (hE : MH), Str t13c r13c hE → (Only [2492, 2493] h hE) → (WI13 (N13 h wo) π fr (ga hE 2492) (ga hE 2493)) → (0 ≤ e ∧ e ≤ 140) → ((m = 0 ∧ hE = hW ∧ ∀ x : Int, 0 ≤ x → x < e → NI13 (N13 h wo) (ga hW 2492) x) ∨ (m = 1 ∧ sm12 (ga hE 2492) 34 < sm12 (ga hW 2492) 34)) → (140 : Int) - e < (N30 : Int) → MW KX13_walk Q 0 0 (pcA pgX13_walk 30) [(0, (2, ((2468 : Nat) : Int))), (1, (0, fr)), (2, (0, wo)), (3, (0, m)), (4, (0, e))] [] hE := by
                intro N30
                induction N30 with
                | zero => intro m e hE g30 hO wi e0 pg hm30; exfalso; omega
                | succ N30 ih30 =>
                  intro m e hE g30 hO wi e0 pg hm30
                  refine hd_iload pkX13_walk rfl rfl ?_
                  refine hd_aload pkX13_walk rfl rfl (Int.natCast_nonneg _) ?_
                  refine hd_getI pkX13_walk rfl (g30.cell 0 rfl).1 (g30.cell 0 rfl).2.1 (fun v4 ev4 rv4 => ?_)
                  replace ev4 : v4 = ga hE 2468 22 := ev4
                  have qv4 : na = v4 := by rw [ev4, hO.ga (by decide)]; exact ena
                  subst qv4
                  refine hd_ic_ge pkX13_walk rfl (fun c5 => ?_) (fun c5 => ?_)
                  · skip
                    refine hd_goto pkX13_walk rfl ?_
                    refine m_sub [(0, (2, ((2468 : Nat) : Int))), (1, (0, fr)), (2, (0, wo)), (3, (0, m))] (List.forall_mem_cons.mpr ⟨rfl, List.forall_mem_cons.mpr ⟨rfl, List.forall_mem_cons.mpr ⟨rfl, List.forall_mem_cons.mpr ⟨rfl, fun _ h => absurd h List.not_mem_nil⟩⟩⟩⟩) ?_
                    refine ih24  (m) hE g30 ?_ ?_ ?_ ?_
                    · exact hO
                    · exact wi
                    · rcases pg with ⟨a, b, c⟩ | ⟨a, b⟩
                      · exact Or.inr ⟨a, FX13.of fun e e0 e1 => by rw [b]; exact c e e0 (by have : nA (N13 h wo) = na := ena.symm; omega)⟩
                      · exact Or.inl a
                    · rcases pg with ⟨a, b, c⟩ | ⟨a, b⟩ <;> first | (rw [b]; omega) | omega
                  · skip
                    refine hd_iload pkX13_walk rfl rfl ?_
                    refine hd_iload pkX13_walk rfl rfl ?_
                    refine hd_ic_eq pkX13_walk rfl (fun c6 => ?_) (fun c6 => ?_)
                    · skip
                      have ni : NI13 (N13 h wo) (ga hE 2492) e := NI13.of (fun x => absurd c6 x) (fun x => absurd c6 x)
                      refine hd_iinc (z := 1) pkX13_walk rfl rfl (by omega) rfl ?_
                      change MW _ _ _ _ _ [(4, (0, (e + 1))), (0, (2, ((2468 : Nat) : Int))), (1, (0, fr)), (2, (0, wo)), (3, (0, m))] _ _
                      refine hd_goto pkX13_walk rfl ?_
                      refine m_sub [(0, (2, ((2468 : Nat) : Int))), (1, (0, fr)), (2, (0, wo)), (3, (0, m)), (4, (0, (e + 1)))] (List.forall_mem_cons.mpr ⟨rfl, List.forall_mem_cons.mpr ⟨rfl, List.forall_mem_cons.mpr ⟨rfl, List.forall_mem_cons.mpr ⟨rfl, List.forall_mem_cons.mpr ⟨rfl, fun _ h => absurd h List.not_mem_nil⟩⟩⟩⟩⟩) ?_
                      refine ih30  (m) ((e + 1)) hE g30 ?_ ?_ ?_ ?_ ?_
                      · exact hO
                      · exact wi
                      · omega
                      · rcases pg with ⟨a, b, c⟩ | ⟨a, b⟩
                        · refine Or.inl ⟨a, b, fun x x0 x1 => ?_⟩
                          by_cases q : x = e
                          · rw [q, ← b]; exact ni
                          · exact c x x0 (by omega)
                        · exact Or.inr ⟨a, b⟩
                      · omega
                    · skip
                      have ewo : e ≠ nwo (N13 h wo) := c6
                      refine hd_aload pkX13_walk rfl rfl (Int.natCast_nonneg _) ?_
                      refine hd_getR (n := 2491) pkX13_walk rfl (g30.cell 0 rfl).1 (g30.cell 0 rfl).2.1 (g30.ref 22 rfl) ?_
                      refine hd_iload pkX13_walk rfl rfl ?_
                      refine hd_zald (n := 140) pkX13_walk rfl (g30.cell 23 rfl) (by omega) (by omega) (fun v7 ev7 rv7 => ?_)
                      obtain ⟨dn, qv7⟩ : ∃ x : Int, x = v7 := ⟨_, rfl⟩
                      have edn : dn = ga h 2491 e := qv7.trans (ev7.trans (hO.ga (by decide) _))
                      subst qv7
                      refine hd_if_ne pkX13_walk rfl (fun c8 => ?_) (fun c8 => ?_)
                      · skip
                        have ni : NI13 (N13 h wo) (ga hE 2492) e := NI13.of (fun _ x => absurd (edn.trans x) c8) (fun _ x => absurd (edn.trans x) c8)
                        refine hd_iinc (z := 1) pkX13_walk rfl rfl (by omega) rfl ?_
                        change MW _ _ _ _ _ [(4, (0, (e + 1))), (0, (2, ((2468 : Nat) : Int))), (1, (0, fr)), (2, (0, wo)), (3, (0, m))] _ _
                        refine hd_goto pkX13_walk rfl ?_
                        refine m_sub [(0, (2, ((2468 : Nat) : Int))), (1, (0, fr)), (2, (0, wo)), (3, (0, m)), (4, (0, (e + 1)))] (List.forall_mem_cons.mpr ⟨rfl, List.forall_mem_cons.mpr ⟨rfl, List.forall_mem_cons.mpr ⟨rfl, List.forall_mem_cons.mpr ⟨rfl, List.forall_mem_cons.mpr ⟨rfl, fun _ h => absurd h List.not_mem_nil⟩⟩⟩⟩⟩) ?_
                        refine ih30  (m) ((e + 1)) hE g30 ?_ ?_ ?_ ?_ ?_
                        · exact hO
                        · exact wi
                        · omega
                        · rcases pg with ⟨a, b, c⟩ | ⟨a, b⟩
                          · refine Or.inl ⟨a, b, fun x x0 x1 => ?_⟩
                            by_cases q : x = e
                            · rw [q, ← b]; exact ni
                            · exact c x x0 (by omega)
                          · exact Or.inr ⟨a, b⟩
                        · omega
                      · skip
                        refine hd_aload pkX13_walk rfl rfl (Int.natCast_nonneg _) ?_
                        refine hd_getR (n := 2486) pkX13_walk rfl (g30.cell 0 rfl).1 (g30.cell 0 rfl).2.1 (g30.ref 17 rfl) ?_
                        refine hd_iload pkX13_walk rfl rfl ?_
                        refine hd_iald (n := 140) pkX13_walk rfl (g30.cell 18 rfl) (by omega) (by omega) (fun v9 ev9 rv9 => ?_)
                        obtain ⟨a5, qv9⟩ : ∃ x : Int, x = v9 := ⟨_, rfl⟩
                        have ea5 : a5 = ga h 2486 e := qv9.trans (ev9.trans (hO.ga (by decide) _))
                        have ab : 0 ≤ a5 ∧ a5 ≤ 33 := by rw [ea5]; exact (nr.2 e e0.1 (by have : nA (N13 h wo) = na := ena.symm; omega)).1
                        subst qv9
                        refine hd_istore pkX13_walk rfl rfl ?_
                        change MW _ _ _ _ _ [(5, (0, a5)), (0, (2, ((2468 : Nat) : Int))), (1, (0, fr)), (2, (0, wo)), (3, (0, m)), (4, (0, e))] _ _
                        refine hd_aload pkX13_walk rfl rfl (Int.natCast_nonneg _) ?_
                        refine hd_getR (n := 2487) pkX13_walk rfl (g30.cell 0 rfl).1 (g30.cell 0 rfl).2.1 (g30.ref 18 rfl) ?_
                        refine hd_iload pkX13_walk rfl rfl ?_
                        refine hd_iald (n := 140) pkX13_walk rfl (g30.cell 19 rfl) (by omega) (by omega) (fun v10 ev10 rv10 => ?_)
                        obtain ⟨b6, qv10⟩ : ∃ x : Int, x = v10 := ⟨_, rfl⟩
                        have eb6 : b6 = ga h 2487 e := qv10.trans (ev10.trans (hO.ga (by decide) _))
                        have bb : 0 ≤ b6 ∧ b6 ≤ 33 := by rw [eb6]; exact (nr.2 e e0.1 (by have : nA (N13 h wo) = na := ena.symm; omega)).2.1
                        have elt : e < nA (N13 h wo) := by have : nA (N13 h wo) = na := ena.symm; omega
                        have pb : 0 ≤ ga h 2489 e ∧ ga h 2489 e ≤ 300000 := (nr.2 e e0.1 elt).2.2
                        subst qv10
                        refine hd_istore pkX13_walk rfl rfl ?_
                        change MW _ _ _ _ _ [(6, (0, b6)), (5, (0, a5)), (0, (2, ((2468 : Nat) : Int))), (1, (0, fr)), (2, (0, wo)), (3, (0, m)), (4, (0, e))] _ _
                        have cut106 : ∀ (m1 : Int) (hJ : MH), Str t13c r13c hJ → (Only [2492, 2493] h hJ) → (WI13 (N13 h wo) π fr (ga hJ 2492) (ga hJ 2493)) → ((m1 = m ∧ hJ = hE ∧ (ga h 2490 e < ga h 2488 e → ga hE 2492 a5 < 1125899906842624 → ga hE 2492 b6 ≤ ga hE 2492 a5 + ga h 2489 e)) ∨ (m1 = 1 ∧ sm12 (ga hJ 2492) 34 < sm12 (ga hE 2492) 34)) → MW KX13_walk Q 0 0 (pcA pgX13_walk 106) [(0, (2, ((2468 : Nat) : Int))), (1, (0, fr)), (2, (0, wo)), (3, (0, m1)), (4, (0, e)), (5, (0, a5)), (6, (0, b6))] [] hJ := by
                          intro m1 hJ gc106 hO wi pj
                          refine hd_aload pkX13_walk rfl rfl (Int.natCast_nonneg _) ?_
                          refine hd_getR (n := 2490) pkX13_walk rfl (gc106.cell 0 rfl).1 (gc106.cell 0 rfl).2.1 (gc106.ref 21 rfl) ?_
                          refine hd_iload pkX13_walk rfl rfl ?_
                          refine hd_lald (n := 140) pkX13_walk rfl (gc106.cell 22 rfl) (by omega) (by omega) (fun v11 ev11 rv11 => ?_)
                          obtain ⟨fl8, qv11⟩ : ∃ x : Int, x = v11 := ⟨_, rfl⟩
                          have efl8 : fl8 = ga h 2490 e := qv11.trans (ev11.trans (hO.ga (by decide) _))
                          subst qv11
                          refine hd_lpush (z := 0) pkX13_walk rfl ?_
                          refine hd_lc_le pkX13_walk rfl (fun c12 => ?_) (fun c12 => ?_)
                          · skip
                            refine hd_iinc (z := 1) pkX13_walk rfl rfl (by omega) rfl ?_
                            change MW _ _ _ _ _ [(4, (0, (e + 1))), (0, (2, ((2468 : Nat) : Int))), (1, (0, fr)), (2, (0, wo)), (3, (0, m1)), (5, (0, a5)), (6, (0, b6))] _ _
                            refine hd_goto pkX13_walk rfl ?_
                            refine m_sub [(0, (2, ((2468 : Nat) : Int))), (1, (0, fr)), (2, (0, wo)), (3, (0, m1)), (4, (0, (e + 1)))] (List.forall_mem_cons.mpr ⟨rfl, List.forall_mem_cons.mpr ⟨rfl, List.forall_mem_cons.mpr ⟨rfl, List.forall_mem_cons.mpr ⟨rfl, List.forall_mem_cons.mpr ⟨rfl, fun _ h => absurd h List.not_mem_nil⟩⟩⟩⟩⟩) ?_
                            refine ih30  (m1) ((e + 1)) hJ gc106 ?_ ?_ ?_ ?_ ?_
                            · exact hO
                            · exact wi
                            · omega
                            · rcases pj with ⟨a, b, c⟩ | ⟨a, b⟩
                              · rcases pg with ⟨a2, b2, c2⟩ | ⟨a2, b2⟩
                                · refine Or.inl ⟨a.trans a2, b.trans b2, fun x x0 x1 => ?_⟩
                                  by_cases q : x = e
                                  · rw [q]
                                    subst b
                                    rw [show ga hW 2492 = ga hJ 2492 from by rw [b2]]
                                    refine NI13.of (fun _ _ x1 x2 => ?_) (fun _ _ x1 x2 => ?_)
                                    · have x1 : ga h 2490 e < ga h 2488 e := x1
                                      have x2 : ga hJ 2492 (ga h 2486 e) < M50 := x2
                                      show ga hJ 2492 (ga h 2487 e) ≤ ga hJ 2492 (ga h 2486 e) + ga h 2489 e
                                      rw [← ea5] at x2 ⊢
                                      rw [← eb6]
                                      unfold M50 at x2
                                      exact c x1 x2
                                    · have x1 : 0 < ga h 2490 e := x1
                                      have x2 : ga hJ 2492 (ga h 2487 e) < M50 := x2
                                      show ga hJ 2492 (ga h 2486 e) ≤ ga hJ 2492 (ga h 2487 e) - ga h 2489 e
                                      rw [← eb6] at x2 ⊢
                                      rw [← ea5]
                                      unfold M50 at x2
                                      omega
                                  · exact c2 x x0 (by omega)
                                · exact Or.inr ⟨a.trans a2, by rw [b]; exact b2⟩
                              · refine Or.inr ⟨a, ?_⟩
                                rcases pg with ⟨a2, b2, c2⟩ | ⟨a2, b2⟩
                                · rw [← b2]; exact b
                                · omega
                            · omega
                          · skip
                            refine hd_aload pkX13_walk rfl rfl (Int.natCast_nonneg _) ?_
                            refine hd_getR (n := 2492) pkX13_walk rfl (gc106.cell 0 rfl).1 (gc106.cell 0 rfl).2.1 (gc106.ref 23 rfl) ?_
                            refine hd_iload pkX13_walk rfl rfl ?_
                            refine hd_lald (n := 34) pkX13_walk rfl (gc106.cell 24 rfl) (by omega) (by omega) (fun v13 ev13 rv13 => ?_)
                            have qv13 : ga hJ 2492 b6 = v13 := ev13.symm
                            subst qv13
                            refine hd_lpush (z := 1125899906842624) pkX13_walk rfl ?_
                            refine hd_lc_ge pkX13_walk rfl (fun c14 => ?_) (fun c14 => ?_)
                            · skip
                              refine hd_iinc (z := 1) pkX13_walk rfl rfl (by omega) rfl ?_
                              change MW _ _ _ _ _ [(4, (0, (e + 1))), (0, (2, ((2468 : Nat) : Int))), (1, (0, fr)), (2, (0, wo)), (3, (0, m1)), (5, (0, a5)), (6, (0, b6))] _ _
                              refine hd_goto pkX13_walk rfl ?_
                              refine m_sub [(0, (2, ((2468 : Nat) : Int))), (1, (0, fr)), (2, (0, wo)), (3, (0, m1)), (4, (0, (e + 1)))] (List.forall_mem_cons.mpr ⟨rfl, List.forall_mem_cons.mpr ⟨rfl, List.forall_mem_cons.mpr ⟨rfl, List.forall_mem_cons.mpr ⟨rfl, List.forall_mem_cons.mpr ⟨rfl, fun _ h => absurd h List.not_mem_nil⟩⟩⟩⟩⟩) ?_
                              refine ih30  (m1) ((e + 1)) hJ gc106 ?_ ?_ ?_ ?_ ?_
                              · exact hO
                              · exact wi
                              · omega
                              · rcases pj with ⟨a, b, c⟩ | ⟨a, b⟩
                                · rcases pg with ⟨a2, b2, c2⟩ | ⟨a2, b2⟩
                                  · refine Or.inl ⟨a.trans a2, b.trans b2, fun x x0 x1 => ?_⟩
                                    by_cases q : x = e
                                    · rw [q]
                                      subst b
                                      rw [show ga hW 2492 = ga hJ 2492 from by rw [b2]]
                                      refine NI13.of (fun _ _ x1 x2 => ?_) (fun _ _ x1 x2 => ?_)
                                      · have x1 : ga h 2490 e < ga h 2488 e := x1
                                        have x2 : ga hJ 2492 (ga h 2486 e) < M50 := x2
                                        show ga hJ 2492 (ga h 2487 e) ≤ ga hJ 2492 (ga h 2486 e) + ga h 2489 e
                                        rw [← ea5] at x2 ⊢
                                        rw [← eb6]
                                        unfold M50 at x2
                                        exact c x1 x2
                                      · have x1 : 0 < ga h 2490 e := x1
                                        have x2 : ga hJ 2492 (ga h 2487 e) < M50 := x2
                                        show ga hJ 2492 (ga h 2486 e) ≤ ga hJ 2492 (ga h 2487 e) - ga h 2489 e
                                        rw [← eb6] at x2 ⊢
                                        rw [← ea5]
                                        unfold M50 at x2
                                        omega
                                    · exact c2 x x0 (by omega)
                                  · exact Or.inr ⟨a.trans a2, by rw [b]; exact b2⟩
                                · refine Or.inr ⟨a, ?_⟩
                                  rcases pg with ⟨a2, b2, c2⟩ | ⟨a2, b2⟩
                                  · rw [← b2]; exact b
                                  · omega
                              · omega
                            · skip
                              refine hd_aload pkX13_walk rfl rfl (Int.natCast_nonneg _) ?_
                              refine hd_getR (n := 2492) pkX13_walk rfl (gc106.cell 0 rfl).1 (gc106.cell 0 rfl).2.1 (gc106.ref 23 rfl) ?_
                              refine hd_iload pkX13_walk rfl rfl ?_
                              refine hd_lald (n := 34) pkX13_walk rfl (gc106.cell 24 rfl) (by omega) (by omega) (fun v15 ev15 rv15 => ?_)
                              have qv15 : ga hJ 2492 b6 = v15 := ev15.symm
                              subst qv15
                              refine hd_aload pkX13_walk rfl rfl (Int.natCast_nonneg _) ?_
                              refine hd_getR (n := 2489) pkX13_walk rfl (gc106.cell 0 rfl).1 (gc106.cell 0 rfl).2.1 (gc106.ref 20 rfl) ?_
                              refine hd_iload pkX13_walk rfl rfl ?_
                              refine hd_lald (n := 140) pkX13_walk rfl (gc106.cell 21 rfl) (by omega) (by omega) (fun v16 ev16 rv16 => ?_)
                              obtain ⟨pr7, qv16⟩ : ∃ x : Int, x = v16 := ⟨_, rfl⟩
                              have epr7 : pr7 = ga h 2489 e := qv16.trans (ev16.trans (hO.ga (by decide) _))
                              subst qv16
                              refine hd_lsub pkX13_walk rfl (by have := wi.low nr b6 bb.1 bb.2; have := (wi.2.1 b6 bb.1 bb.2).1; unfold M50 at this; omega) ?_
                              refine hd_aload pkX13_walk rfl rfl (Int.natCast_nonneg _) ?_
                              refine hd_getR (n := 2492) pkX13_walk rfl (gc106.cell 0 rfl).1 (gc106.cell 0 rfl).2.1 (gc106.ref 23 rfl) ?_
                              refine hd_iload pkX13_walk rfl rfl ?_
                              refine hd_lald (n := 34) pkX13_walk rfl (gc106.cell 24 rfl) (by omega) (by omega) (fun v17 ev17 rv17 => ?_)
                              refine hd_lc_ge pkX13_walk rfl (fun c18 => ?_) (fun c18 => ?_)
                              · skip
                                refine hd_iinc (z := 1) pkX13_walk rfl rfl (by omega) rfl ?_
                                change MW _ _ _ _ _ [(4, (0, (e + 1))), (0, (2, ((2468 : Nat) : Int))), (1, (0, fr)), (2, (0, wo)), (3, (0, m1)), (5, (0, a5)), (6, (0, b6))] _ _
                                refine hd_goto pkX13_walk rfl ?_
                                refine m_sub [(0, (2, ((2468 : Nat) : Int))), (1, (0, fr)), (2, (0, wo)), (3, (0, m1)), (4, (0, (e + 1)))] (List.forall_mem_cons.mpr ⟨rfl, List.forall_mem_cons.mpr ⟨rfl, List.forall_mem_cons.mpr ⟨rfl, List.forall_mem_cons.mpr ⟨rfl, List.forall_mem_cons.mpr ⟨rfl, fun _ h => absurd h List.not_mem_nil⟩⟩⟩⟩⟩) ?_
                                refine ih30  (m1) ((e + 1)) hJ gc106 ?_ ?_ ?_ ?_ ?_
                                · exact hO
                                · exact wi
                                · omega
                                · rcases pj with ⟨a, b, c⟩ | ⟨a, b⟩
                                  · rcases pg with ⟨a2, b2, c2⟩ | ⟨a2, b2⟩
                                    · refine Or.inl ⟨a.trans a2, b.trans b2, fun x x0 x1 => ?_⟩
                                      by_cases q : x = e
                                      · rw [q]
                                        subst b
                                        rw [show ga hW 2492 = ga hJ 2492 from by rw [b2]]
                                        refine NI13.of (fun _ _ x1 x2 => ?_) (fun _ _ x1 x2 => ?_)
                                        · have x1 : ga h 2490 e < ga h 2488 e := x1
                                          have x2 : ga hJ 2492 (ga h 2486 e) < M50 := x2
                                          show ga hJ 2492 (ga h 2487 e) ≤ ga hJ 2492 (ga h 2486 e) + ga h 2489 e
                                          rw [← ea5] at x2 ⊢
                                          rw [← eb6]
                                          unfold M50 at x2
                                          exact c x1 x2
                                        · have x1 : 0 < ga h 2490 e := x1
                                          have x2 : ga hJ 2492 (ga h 2487 e) < M50 := x2
                                          show ga hJ 2492 (ga h 2486 e) ≤ ga hJ 2492 (ga h 2487 e) - ga h 2489 e
                                          rw [← eb6] at x2 ⊢
                                          rw [← ea5]
                                          unfold M50 at x2
                                          omega
                                      · exact c2 x x0 (by omega)
                                    · exact Or.inr ⟨a.trans a2, by rw [b]; exact b2⟩
                                  · refine Or.inr ⟨a, ?_⟩
                                    rcases pg with ⟨a2, b2, c2⟩ | ⟨a2, b2⟩
                                    · rw [← b2]; exact b
                                    · omega
                                · omega
                              · skip
                                refine hd_aload pkX13_walk rfl rfl (Int.natCast_nonneg _) ?_
                                refine hd_getR (n := 2492) pkX13_walk rfl (gc106.cell 0 rfl).1 (gc106.cell 0 rfl).2.1 (gc106.ref 23 rfl) ?_
                                refine hd_iload pkX13_walk rfl rfl ?_
                                refine hd_aload pkX13_walk rfl rfl (Int.natCast_nonneg _) ?_
                                refine hd_getR (n := 2492) pkX13_walk rfl (gc106.cell 0 rfl).1 (gc106.cell 0 rfl).2.1 (gc106.ref 23 rfl) ?_
                                refine hd_iload pkX13_walk rfl rfl ?_
                                refine hd_lald (n := 34) pkX13_walk rfl (gc106.cell 24 rfl) (by omega) (by omega) (fun v19 ev19 rv19 => ?_)
                                have qv19 : ga hJ 2492 b6 = v19 := ev19.symm
                                subst qv19
                                refine hd_aload pkX13_walk rfl rfl (Int.natCast_nonneg _) ?_
                                refine hd_getR (n := 2489) pkX13_walk rfl (gc106.cell 0 rfl).1 (gc106.cell 0 rfl).2.1 (gc106.ref 20 rfl) ?_
                                refine hd_iload pkX13_walk rfl rfl ?_
                                refine hd_lald (n := 140) pkX13_walk rfl (gc106.cell 21 rfl) (by omega) (by omega) (fun v20 ev20 rv20 => ?_)
                                obtain ⟨pr6, qv20⟩ : ∃ x : Int, x = v20 := ⟨_, rfl⟩
                                have epr6 : pr6 = ga h 2489 e := qv20.trans (ev20.trans (hO.ga (by decide) _))
                                subst qv20
                                refine hd_lsub pkX13_walk rfl (by have := wi.low nr b6 bb.1 bb.2; have := (wi.2.1 b6 bb.1 bb.2).1; unfold M50 at this; omega) ?_
                                refine hd_last (n := 34) pkX13_walk rfl (gc106.cell 24 rfl) (by decide) (by omega) (by omega) (fun hh21 ehh21 => ?_)
                                have ghh21 : Str t13c r13c hh21 := by rw [ehh21]; exact gc106.setA rfl
                                have o6 : Only [2492, 2493] h hh21 := by rw [ehh21]; exact hO.set (by decide)
                                have f6 : ∀ v : Int, 0 ≤ v → ga hh21 2492 v = if v = a5 then ga hJ 2492 b6 - pr6 else ga hJ 2492 v := fun v a => by rw [ehh21]; exact ga_sa _ _ _ ab.1 a
                                have b6x : ∀ v : Int, ga hh21 2493 v = ga hJ 2493 v := fun v => by rw [ehh21]; exact ga_ne _ _ _ _ (by decide) v
                                refine hd_aload pkX13_walk rfl rfl (Int.natCast_nonneg _) ?_
                                refine hd_getR (n := 2493) pkX13_walk rfl (ghh21.cell 0 rfl).1 (ghh21.cell 0 rfl).2.1 (ghh21.ref 24 rfl) ?_
                                refine hd_iload pkX13_walk rfl rfl ?_
                                refine hd_iload pkX13_walk rfl rfl ?_
                                refine hd_ineg pkX13_walk rfl (by omega) ?_
                                refine hd_ipush (z := 1) pkX13_walk rfl ?_
                                refine hd_isub pkX13_walk rfl (by omega) ?_
                                refine hd_iast (n := 34) pkX13_walk rfl (ghh21.cell 25 rfl) (by decide) (by omega) (by omega) (fun hh22 ehh22 => ?_)
                                have ghh22 : Str t13c r13c hh22 := by rw [ehh22]; exact ghh21.setA rfl
                                have o7 : Only [2492, 2493] h hh22 := by rw [ehh22]; exact o6.set (by decide)
                                have f7 : ∀ v : Int, 0 ≤ v → ga hh22 2492 v = if v = a5 then ga hJ 2492 b6 - pr6 else ga hJ 2492 v := fun v a => by rw [ehh22, ga_ne _ _ _ _ (by decide)]; exact f6 v a
                                have b7 : ∀ v : Int, 0 ≤ v → ga hh22 2493 v = if v = a5 then -e - 1 else ga hJ 2493 v := fun v a => by rw [ehh22, ga_sa _ _ _ ab.1 a, b6x]
                                have s7 : sm12 (ga hh22 2492) 34 < sm12 (ga hJ 2492) 34 := sm_down ab f7 (by omega)
                                have w7 : WI13 (N13 h wo) π fr (ga hh22 2492) (ga hh22 2493) := wi.bwd nr pv hf e0.1 elt ewo (by show ga h 2491 e = 0; omega) (by show 0 < ga h 2490 e; omega) (by show ga hJ 2492 (ga h 2487 e) < M50; rw [← eb6]; unfold M50; omega) (by show ga hJ 2492 (ga h 2487 e) - ga h 2489 e < ga hJ 2492 (ga h 2486 e); rw [← ea5, ← eb6]; omega) (by show ∀ v : Int, 0 ≤ v → _ = if v = ga h 2486 e then ga hJ 2492 (ga h 2487 e) - ga h 2489 e else ga hJ 2492 v; rw [← ea5, ← eb6, ← epr6]; exact f7) (by show ∀ v : Int, 0 ≤ v → _ = if v = ga h 2486 e then -e - 1 else ga hJ 2493 v; rw [← ea5]; exact b7)
                                refine hd_ipush (z := 1) pkX13_walk rfl ?_
                                refine hd_istore pkX13_walk rfl rfl ?_
                                change MW _ _ _ _ _ [(3, (0, 1)), (0, (2, ((2468 : Nat) : Int))), (1, (0, fr)), (2, (0, wo)), (4, (0, e)), (5, (0, a5)), (6, (0, b6))] _ _
                                refine hd_iinc (z := 1) pkX13_walk rfl rfl (by omega) rfl ?_
                                change MW _ _ _ _ _ [(4, (0, (e + 1))), (3, (0, 1)), (0, (2, ((2468 : Nat) : Int))), (1, (0, fr)), (2, (0, wo)), (5, (0, a5)), (6, (0, b6))] _ _
                                refine hd_goto pkX13_walk rfl ?_
                                refine m_sub [(0, (2, ((2468 : Nat) : Int))), (1, (0, fr)), (2, (0, wo)), (3, (0, 1)), (4, (0, (e + 1)))] (List.forall_mem_cons.mpr ⟨rfl, List.forall_mem_cons.mpr ⟨rfl, List.forall_mem_cons.mpr ⟨rfl, List.forall_mem_cons.mpr ⟨rfl, List.forall_mem_cons.mpr ⟨rfl, fun _ h => absurd h List.not_mem_nil⟩⟩⟩⟩⟩) ?_
                                refine ih30  (1) ((e + 1)) hh22 ghh22 ?_ ?_ ?_ ?_ ?_
                                · exact o7
                                · exact w7
                                · omega
                                · refine Or.inr ⟨rfl, ?_⟩
                                  have t1 : sm12 (ga hJ 2492) 34 ≤ sm12 (ga hE 2492) 34 := by
                                    rcases pj with ⟨a, b, c⟩ | ⟨a, b⟩
                                    · rw [b]; exact Int.le_refl _
                                    · omega
                                  rcases pg with ⟨a2, b2, c2⟩ | ⟨a2, b2⟩
                                  · rw [← b2]; omega
                                  · omega
                                · omega
                        refine hd_aload pkX13_walk rfl rfl (Int.natCast_nonneg _) ?_
                        refine hd_getR (n := 2490) pkX13_walk rfl (g30.cell 0 rfl).1 (g30.cell 0 rfl).2.1 (g30.ref 21 rfl) ?_
                        refine hd_iload pkX13_walk rfl rfl ?_
                        refine hd_lald (n := 140) pkX13_walk rfl (g30.cell 22 rfl) (by omega) (by omega) (fun v23 ev23 rv23 => ?_)
                        obtain ⟨fl9, qv23⟩ : ∃ x : Int, x = v23 := ⟨_, rfl⟩
                        have efl9 : fl9 = ga h 2490 e := qv23.trans (ev23.trans (hO.ga (by decide) _))
                        subst qv23
                        refine hd_aload pkX13_walk rfl rfl (Int.natCast_nonneg _) ?_
                        refine hd_getR (n := 2488) pkX13_walk rfl (g30.cell 0 rfl).1 (g30.cell 0 rfl).2.1 (g30.ref 19 rfl) ?_
                        refine hd_iload pkX13_walk rfl rfl ?_
                        refine hd_lald (n := 140) pkX13_walk rfl (g30.cell 20 rfl) (by omega) (by omega) (fun v24 ev24 rv24 => ?_)
                        obtain ⟨mo9, qv24⟩ : ∃ x : Int, x = v24 := ⟨_, rfl⟩
                        have emo9 : mo9 = ga h 2488 e := qv24.trans (ev24.trans (hO.ga (by decide) _))
                        subst qv24
                        refine hd_lc_ge pkX13_walk rfl (fun c25 => ?_) (fun c25 => ?_)
                        · skip
                          refine m_sub [(0, (2, ((2468 : Nat) : Int))), (1, (0, fr)), (2, (0, wo)), (3, (0, m)), (4, (0, e)), (5, (0, a5)), (6, (0, b6))] (List.forall_mem_cons.mpr ⟨rfl, List.forall_mem_cons.mpr ⟨rfl, List.forall_mem_cons.mpr ⟨rfl, List.forall_mem_cons.mpr ⟨rfl, List.forall_mem_cons.mpr ⟨rfl, List.forall_mem_cons.mpr ⟨rfl, List.forall_mem_cons.mpr ⟨rfl, fun _ h => absurd h List.not_mem_nil⟩⟩⟩⟩⟩⟩⟩) ?_
                          refine cut106 (m) hE g30 ?_ ?_ ?_
                          · exact hO
                          · exact wi
                          · exact Or.inl ⟨rfl, rfl, fun x y => by omega⟩
                        · skip
                          refine hd_aload pkX13_walk rfl rfl (Int.natCast_nonneg _) ?_
                          refine hd_getR (n := 2492) pkX13_walk rfl (g30.cell 0 rfl).1 (g30.cell 0 rfl).2.1 (g30.ref 23 rfl) ?_
                          refine hd_iload pkX13_walk rfl rfl ?_
                          refine hd_lald (n := 34) pkX13_walk rfl (g30.cell 24 rfl) (by omega) (by omega) (fun v26 ev26 rv26 => ?_)
                          have qv26 : ga hE 2492 a5 = v26 := ev26.symm
                          subst qv26
                          refine hd_lpush (z := 1125899906842624) pkX13_walk rfl ?_
                          refine hd_lc_ge pkX13_walk rfl (fun c27 => ?_) (fun c27 => ?_)
                          · skip
                            refine m_sub [(0, (2, ((2468 : Nat) : Int))), (1, (0, fr)), (2, (0, wo)), (3, (0, m)), (4, (0, e)), (5, (0, a5)), (6, (0, b6))] (List.forall_mem_cons.mpr ⟨rfl, List.forall_mem_cons.mpr ⟨rfl, List.forall_mem_cons.mpr ⟨rfl, List.forall_mem_cons.mpr ⟨rfl, List.forall_mem_cons.mpr ⟨rfl, List.forall_mem_cons.mpr ⟨rfl, List.forall_mem_cons.mpr ⟨rfl, fun _ h => absurd h List.not_mem_nil⟩⟩⟩⟩⟩⟩⟩) ?_
                            refine cut106 (m) hE g30 ?_ ?_ ?_
                            · exact hO
                            · exact wi
                            · exact Or.inl ⟨rfl, rfl, fun x y => by omega⟩
                          · skip
                            refine hd_aload pkX13_walk rfl rfl (Int.natCast_nonneg _) ?_
                            refine hd_getR (n := 2492) pkX13_walk rfl (g30.cell 0 rfl).1 (g30.cell 0 rfl).2.1 (g30.ref 23 rfl) ?_
                            refine hd_iload pkX13_walk rfl rfl ?_
                            refine hd_lald (n := 34) pkX13_walk rfl (g30.cell 24 rfl) (by omega) (by omega) (fun v28 ev28 rv28 => ?_)
                            have qv28 : ga hE 2492 a5 = v28 := ev28.symm
                            subst qv28
                            refine hd_aload pkX13_walk rfl rfl (Int.natCast_nonneg _) ?_
                            refine hd_getR (n := 2489) pkX13_walk rfl (g30.cell 0 rfl).1 (g30.cell 0 rfl).2.1 (g30.ref 20 rfl) ?_
                            refine hd_iload pkX13_walk rfl rfl ?_
                            refine hd_lald (n := 140) pkX13_walk rfl (g30.cell 21 rfl) (by omega) (by omega) (fun v29 ev29 rv29 => ?_)
                            obtain ⟨pr9, qv29⟩ : ∃ x : Int, x = v29 := ⟨_, rfl⟩
                            have epr9 : pr9 = ga h 2489 e := qv29.trans (ev29.trans (hO.ga (by decide) _))
                            subst qv29
                            refine hd_ladd pkX13_walk rfl (by have := wi.low nr a5 ab.1 ab.2; have := (wi.2.1 a5 ab.1 ab.2).1; unfold M50 at this; omega) ?_
                            refine hd_aload pkX13_walk rfl rfl (Int.natCast_nonneg _) ?_
                            refine hd_getR (n := 2492) pkX13_walk rfl (g30.cell 0 rfl).1 (g30.cell 0 rfl).2.1 (g30.ref 23 rfl) ?_
                            refine hd_iload pkX13_walk rfl rfl ?_
                            refine hd_lald (n := 34) pkX13_walk rfl (g30.cell 24 rfl) (by omega) (by omega) (fun v30 ev30 rv30 => ?_)
                            have qv30 : ga hE 2492 b6 = v30 := ev30.symm
                            subst qv30
                            refine hd_lc_ge pkX13_walk rfl (fun c31 => ?_) (fun c31 => ?_)
                            · skip
                              refine m_sub [(0, (2, ((2468 : Nat) : Int))), (1, (0, fr)), (2, (0, wo)), (3, (0, m)), (4, (0, e)), (5, (0, a5)), (6, (0, b6))] (List.forall_mem_cons.mpr ⟨rfl, List.forall_mem_cons.mpr ⟨rfl, List.forall_mem_cons.mpr ⟨rfl, List.forall_mem_cons.mpr ⟨rfl, List.forall_mem_cons.mpr ⟨rfl, List.forall_mem_cons.mpr ⟨rfl, List.forall_mem_cons.mpr ⟨rfl, fun _ h => absurd h List.not_mem_nil⟩⟩⟩⟩⟩⟩⟩) ?_
                              refine cut106 (m) hE g30 ?_ ?_ ?_
                              · exact hO
                              · exact wi
                              · exact Or.inl ⟨rfl, rfl, fun x y => by omega⟩
                            · skip
                              refine hd_aload pkX13_walk rfl rfl (Int.natCast_nonneg _) ?_
                              refine hd_getR (n := 2492) pkX13_walk rfl (g30.cell 0 rfl).1 (g30.cell 0 rfl).2.1 (g30.ref 23 rfl) ?_
                              refine hd_iload pkX13_walk rfl rfl ?_
                              refine hd_aload pkX13_walk rfl rfl (Int.natCast_nonneg _) ?_
                              refine hd_getR (n := 2492) pkX13_walk rfl (g30.cell 0 rfl).1 (g30.cell 0 rfl).2.1 (g30.ref 23 rfl) ?_
                              refine hd_iload pkX13_walk rfl rfl ?_
                              refine hd_lald (n := 34) pkX13_walk rfl (g30.cell 24 rfl) (by omega) (by omega) (fun v32 ev32 rv32 => ?_)
                              have qv32 : ga hE 2492 a5 = v32 := ev32.symm
                              subst qv32
                              refine hd_aload pkX13_walk rfl rfl (Int.natCast_nonneg _) ?_
                              refine hd_getR (n := 2489) pkX13_walk rfl (g30.cell 0 rfl).1 (g30.cell 0 rfl).2.1 (g30.ref 20 rfl) ?_
                              refine hd_iload pkX13_walk rfl rfl ?_
                              refine hd_lald (n := 140) pkX13_walk rfl (g30.cell 21 rfl) (by omega) (by omega) (fun v33 ev33 rv33 => ?_)
                              obtain ⟨pr8, qv33⟩ : ∃ x : Int, x = v33 := ⟨_, rfl⟩
                              have epr8 : pr8 = ga h 2489 e := qv33.trans (ev33.trans (hO.ga (by decide) _))
                              subst qv33
                              refine hd_ladd pkX13_walk rfl (by have := wi.low nr a5 ab.1 ab.2; have := (wi.2.1 a5 ab.1 ab.2).1; unfold M50 at this; omega) ?_
                              refine hd_last (n := 34) pkX13_walk rfl (g30.cell 24 rfl) (by decide) (by omega) (by omega) (fun hh34 ehh34 => ?_)
                              have ghh34 : Str t13c r13c hh34 := by rw [ehh34]; exact g30.setA rfl
                              have o4 : Only [2492, 2493] h hh34 := by rw [ehh34]; exact hO.set (by decide)
                              have f4 : ∀ v : Int, 0 ≤ v → ga hh34 2492 v = if v = b6 then ga hE 2492 a5 + pr8 else ga hE 2492 v := fun v a => by rw [ehh34]; exact ga_sa _ _ _ bb.1 a
                              have b4 : ∀ v : Int, ga hh34 2493 v = ga hE 2493 v := fun v => by rw [ehh34]; exact ga_ne _ _ _ _ (by decide) v
                              refine hd_aload pkX13_walk rfl rfl (Int.natCast_nonneg _) ?_
                              refine hd_getR (n := 2493) pkX13_walk rfl (ghh34.cell 0 rfl).1 (ghh34.cell 0 rfl).2.1 (ghh34.ref 24 rfl) ?_
                              refine hd_iload pkX13_walk rfl rfl ?_
                              refine hd_iload pkX13_walk rfl rfl ?_
                              refine hd_ipush (z := 1) pkX13_walk rfl ?_
                              refine hd_iadd pkX13_walk rfl (by omega) ?_
                              refine hd_iast (n := 34) pkX13_walk rfl (ghh34.cell 25 rfl) (by decide) (by omega) (by omega) (fun hh35 ehh35 => ?_)
                              have ghh35 : Str t13c r13c hh35 := by rw [ehh35]; exact ghh34.setA rfl
                              have o5 : Only [2492, 2493] h hh35 := by rw [ehh35]; exact o4.set (by decide)
                              have f5 : ∀ v : Int, 0 ≤ v → ga hh35 2492 v = if v = b6 then ga hE 2492 a5 + pr8 else ga hE 2492 v := fun v a => by rw [ehh35, ga_ne _ _ _ _ (by decide)]; exact f4 v a
                              have b5 : ∀ v : Int, 0 ≤ v → ga hh35 2493 v = if v = b6 then e + 1 else ga hE 2493 v := fun v a => by rw [ehh35, ga_sa _ _ _ bb.1 a, b4]
                              have s5 : sm12 (ga hh35 2492) 34 < sm12 (ga hE 2492) 34 := sm_down bb f5 (by omega)
                              have w5 : WI13 (N13 h wo) π fr (ga hh35 2492) (ga hh35 2493) := wi.fwd nr pv hf e0.1 elt ewo (by show ga h 2491 e = 0; omega) (by show ga h 2490 e < ga h 2488 e; omega) (by show ga hE 2492 (ga h 2486 e) < M50; rw [← ea5]; unfold M50; omega) (by show ga hE 2492 (ga h 2486 e) + ga h 2489 e < ga hE 2492 (ga h 2487 e); rw [← ea5, ← eb6]; omega) (by show ∀ v : Int, 0 ≤ v → _ = if v = ga h 2487 e then ga hE 2492 (ga h 2486 e) + ga h 2489 e else ga hE 2492 v; rw [← ea5, ← eb6, ← epr8]; exact f5) (by show ∀ v : Int, 0 ≤ v → _ = if v = ga h 2487 e then e + 1 else ga hE 2493 v; rw [← eb6]; exact b5)
                              refine hd_ipush (z := 1) pkX13_walk rfl ?_
                              refine hd_istore pkX13_walk rfl rfl ?_
                              change MW _ _ _ _ _ [(3, (0, 1)), (6, (0, b6)), (5, (0, a5)), (0, (2, ((2468 : Nat) : Int))), (1, (0, fr)), (2, (0, wo)), (4, (0, e))] _ _
                              refine m_sub [(0, (2, ((2468 : Nat) : Int))), (1, (0, fr)), (2, (0, wo)), (3, (0, 1)), (4, (0, e)), (5, (0, a5)), (6, (0, b6))] (List.forall_mem_cons.mpr ⟨rfl, List.forall_mem_cons.mpr ⟨rfl, List.forall_mem_cons.mpr ⟨rfl, List.forall_mem_cons.mpr ⟨rfl, List.forall_mem_cons.mpr ⟨rfl, List.forall_mem_cons.mpr ⟨rfl, List.forall_mem_cons.mpr ⟨rfl, fun _ h => absurd h List.not_mem_nil⟩⟩⟩⟩⟩⟩⟩) ?_
                              refine cut106 (1) hh35 ghh35 ?_ ?_ ?_
                              · exact o5
                              · exact w5
                              · exact Or.inr ⟨rfl, s5⟩
              refine m_sub [(0, (2, ((2468 : Nat) : Int))), (1, (0, fr)), (2, (0, wo)), (3, (0, 0)), (4, (0, 0))] (List.forall_mem_cons.mpr ⟨rfl, List.forall_mem_cons.mpr ⟨rfl, List.forall_mem_cons.mpr ⟨rfl, List.forall_mem_cons.mpr ⟨rfl, List.forall_mem_cons.mpr ⟨rfl, fun _ h => absurd h List.not_mem_nil⟩⟩⟩⟩⟩) ?_
              refine lp30 (((140 : Int) - (0)) + 1).toNat (0) (0) hW g24 ?_ ?_ ?_ ?_ ?_
              · exact hO
              · exact wi
              · omega
              · exact Or.inl ⟨rfl, rfl, fun x x0 x1 => by omega⟩
              · omega
        refine m_sub [(0, (2, ((2468 : Nat) : Int))), (1, (0, fr)), (2, (0, wo)), (3, (0, 1))] (List.forall_mem_cons.mpr ⟨rfl, List.forall_mem_cons.mpr ⟨rfl, List.forall_mem_cons.mpr ⟨rfl, List.forall_mem_cons.mpr ⟨rfl, fun _ h => absurd h List.not_mem_nil⟩⟩⟩⟩) ?_
        refine lp24 ((2 * (sm12 (ga hh2 2492) 34 + 400000000) + (1)) + 1).toNat (1) hh2 ghh2 ?_ ?_ ?_ ?_
        · exact o3
        · exact wi
        · omega
        · have := wi.sm nr; omega
      · skip
        refine hd_aload pkX13_walk rfl rfl (Int.natCast_nonneg _) ?_
        refine hd_getR (n := 2492) pkX13_walk rfl (g2.cell 0 rfl).1 (g2.cell 0 rfl).2.1 (g2.ref 23 rfl) ?_
        refine hd_iload pkX13_walk rfl rfl ?_
        refine hd_lpush (z := 1125899906842624) pkX13_walk rfl ?_
        refine hd_last (n := 34) pkX13_walk rfl (g2.cell 24 rfl) (by decide) (by omega) (by omega) (fun hh36 ehh36 => ?_)
        have ghh36 : Str t13c r13c hh36 := by rw [ehh36]; exact g2.setA rfl
        have o1 : Only [2492, 2493] h hh36 := by rw [ehh36]; exact hO.set (by decide)
        have f1 : ∀ v : Int, 0 ≤ v → ga hh36 2492 v = if v = k then 1125899906842624 else ga hI 2492 v := fun v a => by rw [ehh36]; exact ga_sa _ _ _ k0.1 a
        have b1 : ∀ v : Int, ga hh36 2493 v = ga hI 2493 v := fun v => by rw [ehh36]; exact ga_ne _ _ _ _ (by decide) v
        refine hd_aload pkX13_walk rfl rfl (Int.natCast_nonneg _) ?_
        refine hd_getR (n := 2493) pkX13_walk rfl (ghh36.cell 0 rfl).1 (ghh36.cell 0 rfl).2.1 (ghh36.ref 24 rfl) ?_
        refine hd_iload pkX13_walk rfl rfl ?_
        refine hd_ipush (z := 0) pkX13_walk rfl ?_
        refine hd_iast (n := 34) pkX13_walk rfl (ghh36.cell 25 rfl) (by decide) (by omega) (by omega) (fun hh37 ehh37 => ?_)
        have ghh37 : Str t13c r13c hh37 := by rw [ehh37]; exact ghh36.setA rfl
        have o2 : Only [2492, 2493] h hh37 := by rw [ehh37]; exact o1.set (by decide)
        have f2 : ∀ v : Int, 0 ≤ v → ga hh37 2492 v = if v = k then 1125899906842624 else ga hI 2492 v := fun v a => by rw [ehh37, ga_ne _ _ _ _ (by decide)]; exact f1 v a
        have b2 : ∀ v : Int, 0 ≤ v → ga hh37 2493 v = if v = k then 0 else ga hI 2493 v := fun v a => by rw [ehh37, ga_sa _ _ _ k0.1 a, b1]
        refine hd_iinc (z := 1) pkX13_walk rfl rfl (by omega) rfl ?_
        change MW _ _ _ _ _ [(3, (0, (k + 1))), (0, (2, ((2468 : Nat) : Int))), (1, (0, fr)), (2, (0, wo))] _ _
        refine hd_goto pkX13_walk rfl ?_
        refine m_sub [(0, (2, ((2468 : Nat) : Int))), (1, (0, fr)), (2, (0, wo)), (3, (0, (k + 1)))] (List.forall_mem_cons.mpr ⟨rfl, List.forall_mem_cons.mpr ⟨rfl, List.forall_mem_cons.mpr ⟨rfl, List.forall_mem_cons.mpr ⟨rfl, fun _ h => absurd h List.not_mem_nil⟩⟩⟩⟩) ?_
        refine ih2  ((k + 1)) hh37 ghh37 ?_ ?_ ?_ ?_
        · exact o2
        · omega
        · intro v a b
          rw [f2 v a, b2 v a]
          by_cases q : v = k
          · rw [if_pos q, if_pos q]; exact ⟨rfl, rfl⟩
          · rw [if_neg q, if_neg q]; exact zz v a (by omega)
        · omega
  refine m_sub [(0, (2, ((2468 : Nat) : Int))), (1, (0, fr)), (2, (0, wo)), (3, (0, 0))] (List.forall_mem_cons.mpr ⟨rfl, List.forall_mem_cons.mpr ⟨rfl, List.forall_mem_cons.mpr ⟨rfl, List.forall_mem_cons.mpr ⟨rfl, fun _ h => absurd h List.not_mem_nil⟩⟩⟩⟩) ?_
  refine lp2 (((34 : Int) - (0)) + 1).toNat (0) h g ?_ ?_ ?_ ?_
  · exact Only.refl _ _
  · omega
  · intro v a b
    omega
  · omega
