/-! X13 by hand: its methods -/
set_option maxRecDepth 20000 in
set_option maxHeartbeats 8000000 in
theorem h_X13_sendAll {h : MH} (nr : NR13 (N13 h (-1))) (ne : ∀ e : Int, 0 ≤ e → e < ga h 2468 22 → ga h 2486 e ≠ 33) (nb : NB13 h) (px0 : ∃ π, PV13 (N13 h (-1)) π) (g : Str t13c r13c h) : MCal KX13_sendAll yX13_sendAll 0 0 [(2, ((2468 : Nat) : Int))] h (mRV fun h' => Only [2468, 2490, 2492, 2493] h h' ∧ (∀ j : Int, 0 ≤ j → j ≠ 31 → j ≠ 32 → ga h' 2468 j = ga h 2468 j) ∧ NB13 h' ∧ (∃ π, PV13 (N13 h' (-1)) π ∧ WI13 (N13 h' (-1)) π 0 (ga h' 2492) (ga h' 2493)) ∧ ∀ u : Int, u ≠ 0 → u ≠ 33 → ex13 (N13 h (-1)) (ga h' 2490) u = ex13 (N13 h (-1)) (ga h 2490) u) := by
  refine MCal.ofMW (Or.inl rfl) ⟨cp_X13, rfl⟩ (Nat.le_of_ble_eq_true rfl) ?_
  generalize eQ : (mRV fun h' => Only [2468, 2490, 2492, 2493] h h' ∧ (∀ j : Int, 0 ≤ j → j ≠ 31 → j ≠ 32 → ga h' 2468 j = ga h 2468 j) ∧ NB13 h' ∧ (∃ π, PV13 (N13 h' (-1)) π ∧ WI13 (N13 h' (-1)) π 0 (ga h' 2492) (ga h' 2493)) ∧ ∀ u : Int, u ≠ 0 → u ≠ 33 → ex13 (N13 h (-1)) (ga h' 2490) u = ex13 (N13 h (-1)) (ga h 2490) u : MO → MH → Prop) = Q
  change MW KX13_sendAll Q 0 0 (pcA pgX13_sendAll 0) [(0, (2, ((2468 : Nat) : Int)))] [] h
  refine hd_aload pkX13_sendAll rfl rfl (Int.natCast_nonneg _) ?_
  refine hd_lpush (z := 0) pkX13_sendAll rfl ?_
  refine hd_putJ pkX13_sendAll rfl (g.cell 0 rfl).1 (g.cell 0 rfl).2.1 (fun hh1 ehh1 => ?_)
  have ghh1 : Str t13c r13c hh1 := by rw [ehh1]; exact g.setF rfl
  have o1 : Only [2468] h hh1 := by rw [ehh1]; exact (Only.refl _ _).set (by decide)
  have f1 : ∀ j : Int, 0 ≤ j → j ≠ 31 → ga hh1 2468 j = ga h 2468 j := fun j a n => by rw [ehh1, ga_sa _ _ _ (by decide) a]; exact if_neg n
  refine hd_aload pkX13_sendAll rfl rfl (Int.natCast_nonneg _) ?_
  refine hd_lpush (z := 0) pkX13_sendAll rfl ?_
  refine hd_putJ pkX13_sendAll rfl (ghh1.cell 0 rfl).1 (ghh1.cell 0 rfl).2.1 (fun hh2 ehh2 => ?_)
  have ghh2 : Str t13c r13c hh2 := by rw [ehh2]; exact ghh1.setF rfl
  have o2 : Only [2468] h hh2 := by rw [ehh2]; exact o1.set (by decide)
  have f2 : ∀ j : Int, 0 ≤ j → j ≠ 31 → j ≠ 32 → ga hh2 2468 j = ga h 2468 j := fun j a n m => by rw [ehh2, ga_sa _ _ _ (by decide) a, ← f1 j a n]; exact if_neg m
  have eN2 : N13 hh2 (-1) = N13 h (-1) := N13.eq (fun c hc => onlyF o2 (by revert hc; revert c; decide)) (f2 22 (by decide) (by decide) (by decide)) _
  refine hd_aload pkX13_sendAll rfl rfl (Int.natCast_nonneg _) ?_
  refine hd_ipush (z := 0) pkX13_sendAll rfl ?_
  refine hd_ipush (z := (-1)) pkX13_sendAll rfl ?_
  obtain ⟨π0, pv0⟩ := px0
  refine hd_callV pkX13_sendAll rfl (q := (KX13_walk, yX13_walk, 13, 2, 0)) rfl rfl rfl (As := [(0, 0), (0, (-1))]) (rest := []) (c := 2468) rfl rfl (Nat.le_of_ble_eq_true rfl) (ghh2.cell 0 rfl).1 (ghh2.cell 0 rfl).2.1 (h_X13_walk (wo := -1) (by rw [eN2]; exact nr) (by rw [eN2]; exact pv0) ⟨by decide, by decide⟩ ghh2) (hd_bV (fun hc3 pw => ?_))
  have ghc3 : Str t13c r13c hc3 := ghh2.only pw.1 (by decide)
  have eN3 : N13 hc3 (-1) = N13 hh2 (-1) := N13.eq (fun c hc => onlyF pw.1 (by revert hc; revert c; decide)) (pw.1.ga (by decide) _) _
  have o3 : Only [2468, 2490, 2492, 2493] h hc3 := (o2.mono (by decide)).trans (pw.1.mono (by decide))
  have f3 : ∀ j : Int, 0 ≤ j → j ≠ 31 → j ≠ 32 → ga hc3 2468 j = ga h 2468 j := fun j a n m => (pw.1.ga (by decide) _).trans (f2 j a n m)
  have l3 : ga hc3 2490 = ga h 2490 := (onlyF pw.1 (by decide)).trans (onlyF o2 (by decide))
  have px3 : ∃ π, PV13 (N13 hc3 (-1)) π ∧ WI13 (N13 hc3 (-1)) π 0 (ga hc3 2492) (ga hc3 2493) ∧ FX13 (N13 hc3 (-1)) (ga hc3 2492) := by
    refine ⟨π0, ?_⟩
    rw [eN3]
    exact ⟨by rw [eN2]; exact pv0, pw.2.1, pw.2.2⟩
  have lp10 : ∀ (N10 : Nat) (hS : MH), Str t13c r13c hS → (Only [2468, 2490, 2492, 2493] h hS) → (∀ j : Int, 0 ≤ j → j ≠ 31 → j ≠ 32 → ga hS 2468 j = ga h 2468 j) → (NB13 hS) → (∃ π, PV13 (N13 hS (-1)) π ∧ WI13 (N13 hS (-1)) π 0 (ga hS 2492) (ga hS 2493) ∧ FX13 (N13 hS (-1)) (ga hS 2492)) → (∀ u : Int, u ≠ 0 → u ≠ 33 → ex13 (N13 h (-1)) (ga hS 2490) u = ex13 (N13 h (-1)) (ga h 2490) u) → M33 hS < (N10 : Int) → MW KX13_sendAll Q 0 0 (pcA pgX13_sendAll 10) [(0, (2, ((2468 : Nat) : Int)))] [] hS := by
    intro N10
    induction N10 with
    | zero => intro hS g10 hO fF nbS px xx hm10; exfalso; have := M33.nn nbS; omega
    | succ N10 ih10 =>
      intro hS g10 hO fF nbS px xx hm10
      have nrS : NR13 (N13 hS (-1)) := nr.keep (fun c hc => onlyF hO (by revert hc; revert c; decide)) (fF 22 (by decide) (by decide) (by decide))
      refine hd_aload pkX13_sendAll rfl rfl (Int.natCast_nonneg _) ?_
      refine hd_getR (n := 2492) pkX13_sendAll rfl (g10.cell 0 rfl).1 (g10.cell 0 rfl).2.1 (g10.ref 23 rfl) ?_
      refine hd_ipush (z := 33) pkX13_sendAll rfl ?_
      refine hd_lald (n := 34) pkX13_sendAll rfl (g10.cell 24 rfl) (by omega) (by omega) (fun v4 ev4 rv4 => ?_)
      have qv4 : ga hS 2492 33 = v4 := ev4.symm
      subst qv4
      refine hd_lpush (z := 1125899906842624) pkX13_sendAll rfl ?_
      refine hd_lc_ge pkX13_sendAll rfl (fun c5 => ?_) (fun c5 => ?_)
      · skip
        refine hd_vret pkX13_sendAll rfl ?_
        subst eQ
        obtain ⟨π, p1, p2, p3⟩ := px
        exact ⟨rfl, hO, fF, nbS, ⟨π, p1, p2⟩, xx⟩
      · skip
        obtain ⟨π, pvS, wiS, fxS⟩ := px
        have tmS : ga hS 2492 33 < M50 := by unfold M50; omega
        refine hd_aload pkX13_sendAll rfl rfl (Int.natCast_nonneg _) ?_
        refine hd_getR (n := 2492) pkX13_sendAll rfl (g10.cell 0 rfl).1 (g10.cell 0 rfl).2.1 (g10.ref 23 rfl) ?_
        refine hd_ipush (z := 33) pkX13_sendAll rfl ?_
        refine hd_lald (n := 34) pkX13_sendAll rfl (g10.cell 24 rfl) (by omega) (by omega) (fun v6 ev6 rv6 => ?_)
        have qv6 : ga hS 2492 33 = v6 := ev6.symm
        subst qv6
        refine hd_lstore pkX13_sendAll rfl rfl ?_
        change MW _ _ _ _ _ [(1, (1, (ga hS 2492 33))), (0, (2, ((2468 : Nat) : Int)))] _ _
        refine hd_aload pkX13_sendAll rfl rfl (Int.natCast_nonneg _) ?_
        refine hd_ipush (z := 0) pkX13_sendAll rfl ?_
        refine hd_ipush (z := 33) pkX13_sendAll rfl ?_
        refine hd_lpush (z := 1125899906842624) pkX13_sendAll rfl ?_
        refine hd_callV pkX13_sendAll rfl (q := (KX13_go, yX13_go, 13, 3, 0)) rfl rfl rfl (As := [(0, 0), (0, 33), (1, 1125899906842624)]) (rest := []) (c := 2468) rfl rfl (Nat.le_of_ble_eq_true rfl) (g10.cell 0 rfl).1 (g10.cell 0 rfl).2.1 (h_X13_go (wo := -1) nrS wiS ⟨by decide, by decide⟩ ⟨by decide, by decide⟩ tmS ⟨by decide, by decide⟩ nbS g10) (hd_bL (fun so hc7 pg => ?_))
        have ghc7 : Str t13c r13c hc7 := g10.only pg.1 (by decide)
        have nb2 := nbS.go pg.1 pg.2.2 pg.2.1.1
        have m2 := M33.go wiS nrS (fun e a b => by rw [onlyF hO (by decide)]; exact ne e a (by rw [← fF 22 (by decide) (by decide) (by decide)]; exact b)) tmS pg.1 pg.2.2 pg.2.1.1
        obtain ⟨n9, p9, hn9, pr9, t9, x9⟩ := pg.2.2
        obtain ⟨π2, pv2⟩ := PV13.all nrS pvS wiS fxS p9 t9
        have pv2 : PV13 (N13 hc7 (-1)) π2 := by rw [N13.flow pg.1]; exact pv2
        obtain ⟨hG, ehG⟩ : ∃ x : MH, x = hc7 := ⟨_, rfl⟩
        have oG := pg.1
        rw [← ehG] at nb2 m2 pv2 x9 oG
        refine hd_lstore pkX13_sendAll rfl rfl ?_
        change MW _ _ _ _ _ [(3, (1, so)), (1, (1, (ga hS 2492 33))), (0, (2, ((2468 : Nat) : Int)))] _ _
        refine hd_aload pkX13_sendAll rfl rfl (Int.natCast_nonneg _) ?_
        refine hd_dup pkX13_sendAll rfl rfl ?_
        refine hd_getJ pkX13_sendAll rfl (ghc7.cell 0 rfl).1 (ghc7.cell 0 rfl).2.1 (fun v8 ev8 rv8 => ?_)
        replace ev8 : v8 = ga hc7 2468 31 := ev8
        refine hd_lload pkX13_sendAll rfl rfl ?_
        refine hd_laddW pkX13_sendAll rfl ?_
        refine hd_putJ pkX13_sendAll rfl (ghc7.cell 0 rfl).1 (ghc7.cell 0 rfl).2.1 (fun hh9 ehh9 => ?_)
        have ghh9 : Str t13c r13c hh9 := by rw [ehh9]; exact ghc7.setF rfl
        have o4 : Only [2468] hG hh9 := by rw [ehh9, ehG]; exact (Only.refl _ _).set (by decide)
        have f4 : ∀ j : Int, 0 ≤ j → j ≠ 31 → ga hh9 2468 j = ga hG 2468 j := fun j a n => by rw [ehh9, ga_sa _ _ _ (by decide) a, ehG]; exact if_neg n
        refine hd_aload pkX13_sendAll rfl rfl (Int.natCast_nonneg _) ?_
        refine hd_dup pkX13_sendAll rfl rfl ?_
        refine hd_getJ pkX13_sendAll rfl (ghh9.cell 0 rfl).1 (ghh9.cell 0 rfl).2.1 (fun v10 ev10 rv10 => ?_)
        replace ev10 : v10 = ga hh9 2468 32 := ev10
        refine hd_lload pkX13_sendAll rfl rfl ?_
        refine hd_lload pkX13_sendAll rfl rfl ?_
        refine hd_lmulW pkX13_sendAll rfl ?_
        refine hd_laddW pkX13_sendAll rfl ?_
        refine hd_putJ pkX13_sendAll rfl (ghh9.cell 0 rfl).1 (ghh9.cell 0 rfl).2.1 (fun hh11 ehh11 => ?_)
        have ghh11 : Str t13c r13c hh11 := by rw [ehh11]; exact ghh9.setF rfl
        have o5 : Only [2468] hG hh11 := by rw [ehh11]; exact o4.set (by decide)
        have f5 : ∀ j : Int, 0 ≤ j → j ≠ 31 → j ≠ 32 → ga hh11 2468 j = ga hG 2468 j := fun j a n m => by rw [ehh11, ga_sa _ _ _ (by decide) a, ← f4 j a n]; exact if_neg m
        have eN5 : N13 hh11 (-1) = N13 hG (-1) := N13.eq (fun c hc => onlyF o5 (by revert hc; revert c; decide)) (f5 22 (by decide) (by decide) (by decide)) _
        refine hd_aload pkX13_sendAll rfl rfl (Int.natCast_nonneg _) ?_
        refine hd_ipush (z := 0) pkX13_sendAll rfl ?_
        refine hd_ipush (z := (-1)) pkX13_sendAll rfl ?_
        refine hd_callV pkX13_sendAll rfl (q := (KX13_walk, yX13_walk, 13, 2, 0)) rfl rfl rfl (As := [(0, 0), (0, (-1))]) (rest := []) (c := 2468) rfl rfl (Nat.le_of_ble_eq_true rfl) (ghh11.cell 0 rfl).1 (ghh11.cell 0 rfl).2.1 (h_X13_walk (wo := -1) (nrS.keep (fun c hc => (onlyF o5 (by revert hc; revert c; decide)).trans (onlyF oG (by revert hc; revert c; decide))) ((f5 22 (by decide) (by decide) (by decide)).trans (oG.ga (by decide) _))) (by rw [eN5]; exact pv2) ⟨by decide, by decide⟩ ghh11) (hd_bV (fun hc12 pw => ?_))
        have ghc12 : Str t13c r13c hc12 := ghh11.only pw.1 (by decide)
        have eN6 : N13 hc12 (-1) = N13 hh11 (-1) := N13.eq (fun c hc => onlyF pw.1 (by revert hc; revert c; decide)) (pw.1.ga (by decide) _) _
        have o6 : Only [2468, 2490, 2492, 2493] h hc12 := ((hO.trans (oG.mono (by decide))).trans (o5.mono (by decide))).trans (pw.1.mono (by decide))
        have f6 : ∀ j : Int, 0 ≤ j → j ≠ 31 → j ≠ 32 → ga hc12 2468 j = ga h 2468 j := fun j a n m => (pw.1.ga (by decide) _).trans ((f5 j a n m).trans ((oG.ga (by decide) _).trans (fF j a n m)))
        have l6 : ∀ c ∈ ([2486, 2487, 2488, 2490] : List Nat), ga hc12 c = ga hG c := fun c hc => (onlyF pw.1 (by revert hc; revert c; decide)).trans (onlyF o5 (by revert hc; revert c; decide))
        have a6 : ga hc12 2468 22 = ga hG 2468 22 := (pw.1.ga (by decide) _).trans (f5 22 (by decide) (by decide) (by decide))
        have nb6 : NB13 hc12 := nb2.keep (fun c hc => l6 c (by revert hc; revert c; decide)) a6
        have m6 : M33 hc12 = M33 hG := M33.keep (fun c hc => l6 c (by revert hc; revert c; decide)) a6
        have px6 : ∃ π, PV13 (N13 hc12 (-1)) π ∧ WI13 (N13 hc12 (-1)) π 0 (ga hc12 2492) (ga hc12 2493) ∧ FX13 (N13 hc12 (-1)) (ga hc12 2492) := by
          refine ⟨π2, ?_⟩
          rw [eN6]
          exact ⟨by rw [eN5]; exact pv2, pw.2.1, pw.2.2⟩
        have x6 : ∀ u : Int, u ≠ 0 → u ≠ 33 → ex13 (N13 h (-1)) (ga hc12 2490) u = ex13 (N13 h (-1)) (ga h 2490) u := fun u a b => by
          have z := x9 u
          rw [if_neg b, if_neg a] at z
          rw [l6 2490 (by decide), ← xx u a b, ← ex13.st (N := N13 h (-1)) (N' := N13 hS (-1)) (onlyF hO (by decide)) (onlyF hO (by decide)) (fF 22 (by decide) (by decide) (by decide)), ← ex13.st (N := N13 h (-1)) (N' := N13 hS (-1)) (onlyF hO (by decide)) (onlyF hO (by decide)) (fF 22 (by decide) (by decide) (by decide))]
          omega
        refine hd_goto pkX13_sendAll rfl ?_
        refine m_sub [(0, (2, ((2468 : Nat) : Int)))] (List.forall_mem_cons.mpr ⟨rfl, fun _ h => absurd h List.not_mem_nil⟩) ?_
        refine ih10  hc12 ghc12 ?_ ?_ ?_ ?_ ?_ ?_
        · exact o6
        · exact f6
        · exact nb6
        · exact px6
        · exact x6
        · rw [m6]; omega
  refine lp10 ((M33 hc3) + 1).toNat hc3 ghc3 ?_ ?_ ?_ ?_ ?_ ?_
  · exact o3
  · exact f3
  · exact nb.keep (fun c hc => by
      have : c = 2488 ∨ c = 2490 := by simpa using hc
      rcases this with rfl | rfl
      · exact onlyF ((o2.mono (by decide) : Only [2468, 2492, 2493] h _).trans (pw.1.mono (by decide))) (by decide)
      · exact l3) (f3 22 (by decide) (by decide) (by decide))
  · exact px3
  · intro u _ _
    rw [l3]
  · have := M33.nn nb; omega
