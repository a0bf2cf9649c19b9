/-! X18 by hand: its methods -/
set_option maxRecDepth 20000 in
set_option maxHeartbeats 8000000 in
theorem h_X18_shareOf {h : MH} {fi la mn : Int} {R : MH → Prop} (rs : ∀ x, R x → Str t18c r18c x ∧ ∀ k : Int, 0 ≤ k → k ≤ 31 → 1 ≤ ga x 2546 k → 1 ≤ ga x 2542 k ∧ ga x 2542 k ≤ 1000000) (ch : MCal KX18_countHalves yX18_countHalves 0 0 [(2, ((2534 : Nat) : Int)), (0, fi), (0, la)] h (mRV fun h' => R h')) (g : Str t18c r18c h) : MCal KX18_shareOf yX18_shareOf 0 0 [(2, ((2534 : Nat) : Int)), (0, fi), (0, la), (1, mn)] h (mRV fun h' => ∃ h0, R h0 ∧ Only [2547, 2548, 2549] h0 h' ∧ D18 (ga h' 2547) ∧ D18 (ga h' 2548)) := by
  refine MCal.ofMW (Or.inl rfl) ⟨cp_X18, rfl⟩ (Nat.le_of_ble_eq_true rfl) ?_
  generalize eQ : (mRV fun h' => ∃ h0, R h0 ∧ Only [2547, 2548, 2549] h0 h' ∧ D18 (ga h' 2547) ∧ D18 (ga h' 2548) : MO → MH → Prop) = Q
  change MW KX18_shareOf Q 0 0 (pcA pgX18_shareOf 0) [(0, (2, ((2534 : Nat) : Int))), (1, (0, fi)), (2, (0, la)), (3, (1, mn))] [] h
  refine hd_locI (i := 1) rfl (fun rfi => ?_)
  refine hd_locI (i := 2) rfl (fun rla => ?_)
  refine hd_locL (i := 3) rfl (fun rmn => ?_)
  refine hd_aload pkX18_shareOf rfl rfl (Int.natCast_nonneg _) ?_
  refine hd_iload pkX18_shareOf rfl rfl ?_
  refine hd_iload pkX18_shareOf rfl rfl ?_
  refine hd_callV pkX18_shareOf rfl (q := (KX18_countHalves, yX18_countHalves, 18, 2, 0)) rfl rfl rfl (As := [(0, fi), (0, la)]) (rest := []) (c := 2534) rfl rfl (Nat.le_of_ble_eq_true rfl) (g.cell 0 rfl).1 (g.cell 0 rfl).2.1 (ch) (hd_bV (fun hc1 pc => ?_))
  have ghc1 : Str t18c r18c hc1 := (rs _ pc).1
  obtain ⟨h0, eh0⟩ : ∃ x : MH, x = hc1 := ⟨_, rfl⟩
  have hb := (rs _ pc).2
  rw [← eh0] at hb
  have oh0 := pc
  rw [← eh0] at oh0
  refine hd_aload pkX18_shareOf rfl rfl (Int.natCast_nonneg _) ?_
  refine hd_getR (n := 2548) pkX18_shareOf rfl (ghc1.cell 0 rfl).1 (ghc1.cell 0 rfl).2.1 (ghc1.ref 13 rfl) ?_
  refine hd_ipush (z := 1) pkX18_shareOf rfl ?_
  refine hd_callS pkX18_shareOf rfl (q := (KX18_set, yX18_set, 18, 2, 1)) rfl rfl rfl (As := [(2, ((2548 : Nat) : Int)), (0, 1)]) (rest := []) rfl rfl (Nat.le_of_ble_eq_true rfl) rfl (h_X18_set (c := 2548) (v := 1) (by decide) (by decide) (Str1 ghc1 (by decide))) (hd_bV (fun hc2 ps => ?_))
  have ghc2 : Str t18c r18c hc2 := ghc1.only ps.1 (by decide)
  have o1 : Only [2547, 2548, 2549] h0 hc2 := by rw [eh0]; exact ps.1.mono (by decide)
  refine hd_ipush (z := 0) pkX18_shareOf rfl ?_
  refine hd_istore pkX18_shareOf rfl rfl ?_
  change MW _ _ _ _ _ [(5, (0, 0)), (0, (2, ((2534 : Nat) : Int))), (1, (0, fi)), (2, (0, la)), (3, (1, mn))] _ _
  have lp10 : ∀ (N10 : Nat) (k : Int) (hA : MH), Str t18c r18c hA → (Only [2547, 2548, 2549] h0 hA) → (D18 (ga hA 2548)) → (0 ≤ k ∧ k ≤ 32) → (1 ≤ hv18 (ga hA 2548) 64 ∧ hv18 (ga hA 2548) 64 ≤ 2000000 ^ k.toNat) → (32 : Int) - k < (N10 : Int) → MW KX18_shareOf Q 0 0 (pcA pgX18_shareOf 10) [(0, (2, ((2534 : Nat) : Int))), (1, (0, fi)), (2, (0, la)), (3, (1, mn)), (5, (0, k))] [] hA := by
    intro N10
    induction N10 with
    | zero => intro k hA g10 hO dl k0 v1 hm10; exfalso; omega
    | succ N10 ih10 =>
      intro k hA g10 hO dl k0 v1 hm10
      refine hd_iload pkX18_shareOf rfl rfl ?_
      refine hd_ipush (z := 32) pkX18_shareOf rfl ?_
      refine hd_ic_ge pkX18_shareOf rfl (fun c3 => ?_) (fun c3 => ?_)
      · skip
        refine hd_aload pkX18_shareOf rfl rfl (Int.natCast_nonneg _) ?_
        refine hd_getR (n := 2547) pkX18_shareOf rfl (g10.cell 0 rfl).1 (g10.cell 0 rfl).2.1 (g10.ref 12 rfl) ?_
        refine hd_ipush (z := 0) pkX18_shareOf rfl ?_
        refine hd_callS pkX18_shareOf rfl (q := (KX18_set, yX18_set, 18, 2, 1)) rfl rfl rfl (As := [(2, ((2547 : Nat) : Int)), (0, 0)]) (rest := []) rfl rfl (Nat.le_of_ble_eq_true rfl) rfl (h_X18_set (c := 2547) (v := 0) (by decide) (by decide) (Str1 g10 (by decide))) (hd_bV (fun hc4 pz => ?_))
        have ghc4 : Str t18c r18c hc4 := g10.only pz.1 (by decide)
        have o3 : Only [2547, 2548, 2549] h0 hc4 := hO.trans (pz.1.mono (by decide))
        have el3 : ga hc4 2548 = ga hA 2548 := onlyF pz.1 (by decide)
        refine hd_ipush (z := 0) pkX18_shareOf rfl ?_
        refine hd_istore pkX18_shareOf rfl rfl ?_
        change MW _ _ _ _ _ [(5, (0, 0)), (0, (2, ((2534 : Nat) : Int))), (1, (0, fi)), (2, (0, la)), (3, (1, mn))] _ _
        have lp44 : ∀ (N44 : Nat) (j : Int) (hB : MH), Str t18c r18c hB → (Only [2547, 2548, 2549] h0 hB) → (D18 (ga hB 2547)) → (D18 (ga hB 2548)) → (1 ≤ hv18 (ga hB 2548) 64) → (0 ≤ j ∧ j ≤ 32) → (32 : Int) - j < (N44 : Int) → MW KX18_shareOf Q 0 0 (pcA pgX18_shareOf 44) [(0, (2, ((2534 : Nat) : Int))), (1, (0, fi)), (2, (0, la)), (3, (1, mn)), (5, (0, j))] [] hB := by
          intro N44
          induction N44 with
          | zero => intro j hB g44 hOB duB dlB v1B j0 hm44; exfalso; omega
          | succ N44 ih44 =>
            intro j hB g44 hOB duB dlB v1B j0 hm44
            refine hd_iload pkX18_shareOf rfl rfl ?_
            refine hd_ipush (z := 32) pkX18_shareOf rfl ?_
            refine hd_ic_ge pkX18_shareOf rfl (fun c5 => ?_) (fun c5 => ?_)
            · skip
              refine hd_aload pkX18_shareOf rfl rfl (Int.natCast_nonneg _) ?_
              refine hd_getR (n := 2547) pkX18_shareOf rfl (g44.cell 0 rfl).1 (g44.cell 0 rfl).2.1 (g44.ref 12 rfl) ?_
              refine hd_lload pkX18_shareOf rfl rfl ?_
              refine hd_callS pkX18_shareOf rfl (q := (KX18_times, yX18_times, 18, 2, 1)) rfl rfl rfl (As := [(2, ((2547 : Nat) : Int)), (1, mn)]) (rest := []) rfl rfl (Nat.le_of_ble_eq_true rfl) rfl (h_X18_timesW (c := 2547) (m := mn) (by decide) (Str1 g44 (by decide))) (hd_bV (fun hc6 p8 => ?_))
              have ghc6 : Str t18c r18c hc6 := g44.only p8.1 (by decide)
              have o8 : Only [2547, 2548, 2549] h0 hc6 := hOB.trans (p8.1.mono (by decide))
              have el8 : ga hc6 2548 = ga hB 2548 := onlyF p8.1 (by decide)
              refine hd_ipush (z := 0) pkX18_shareOf rfl ?_
              refine hd_istore pkX18_shareOf rfl rfl ?_
              change MW _ _ _ _ _ [(5, (0, 0)), (0, (2, ((2534 : Nat) : Int))), (1, (0, fi)), (2, (0, la)), (3, (1, mn))] _ _
              have lp97 : ∀ (N97 : Nat) (e : Int) (hD : MH), Str t18c r18c hD → (Only [2547, 2548, 2549] h0 hD) → (D18 (ga hD 2547)) → (D18 (ga hD 2548)) → (1 ≤ hv18 (ga hD 2548) 64) → (0 ≤ e ∧ e ≤ 32) → (32 : Int) - e < (N97 : Int) → MW KX18_shareOf Q 0 0 (pcA pgX18_shareOf 97) [(0, (2, ((2534 : Nat) : Int))), (1, (0, fi)), (2, (0, la)), (3, (1, mn)), (5, (0, e))] [] hD := by
                intro N97
                induction N97 with
                | zero => intro e hD g97 hOD duD dlD v1D e0 hm97; exfalso; omega
                | succ N97 ih97 =>
                  intro e hD g97 hOD duD dlD v1D e0 hm97
                  refine hd_iload pkX18_shareOf rfl rfl ?_
                  refine hd_ipush (z := 32) pkX18_shareOf rfl ?_
                  refine hd_ic_ge pkX18_shareOf rfl (fun c7 => ?_) (fun c7 => ?_)
                  · skip
                    refine hd_vret pkX18_shareOf rfl ?_
                    subst eQ
                    exact ⟨rfl, h0, oh0, hOD, duD, dlD⟩
                  · skip
                    refine hd_aload pkX18_shareOf rfl rfl (Int.natCast_nonneg _) ?_
                    refine hd_getR (n := 2546) pkX18_shareOf rfl (g97.cell 0 rfl).1 (g97.cell 0 rfl).2.1 (g97.ref 11 rfl) ?_
                    refine hd_iload pkX18_shareOf rfl rfl ?_
                    refine hd_iald (n := 32) pkX18_shareOf rfl (g97.cell 12 rfl) (by omega) (by omega) (fun v8 ev8 rv8 => ?_)
                    have qv8 : ga h0 2546 e = v8 := by rw [ev8]; exact (hOD.ga (by decide) _).symm
                    subst qv8
                    refine hd_if_le pkX18_shareOf rfl (fun c9 => ?_) (fun c9 => ?_)
                    · skip
                      refine hd_iinc (z := 1) pkX18_shareOf rfl rfl (by omega) rfl ?_
                      change MW _ _ _ _ _ [(5, (0, (e + 1))), (0, (2, ((2534 : Nat) : Int))), (1, (0, fi)), (2, (0, la)), (3, (1, mn))] _ _
                      refine hd_goto pkX18_shareOf rfl ?_
                      refine m_sub [(0, (2, ((2534 : Nat) : Int))), (1, (0, fi)), (2, (0, la)), (3, (1, mn)), (5, (0, (e + 1)))] (List.forall_mem_cons.mpr ⟨rfl, List.forall_mem_cons.mpr ⟨rfl, List.forall_mem_cons.mpr ⟨rfl, List.forall_mem_cons.mpr ⟨rfl, List.forall_mem_cons.mpr ⟨rfl, fun _ h => absurd h List.not_mem_nil⟩⟩⟩⟩⟩) ?_
                      refine ih97  ((e + 1)) hD g97 ?_ ?_ ?_ ?_ ?_ ?_
                      · exact hOD
                      · exact duD
                      · exact dlD
                      · exact v1D
                      · omega
                      · omega
                    · skip
                      refine hd_aload pkX18_shareOf rfl rfl (Int.natCast_nonneg _) ?_
                      refine hd_lpush (z := 2) pkX18_shareOf rfl ?_
                      refine hd_aload pkX18_shareOf rfl rfl (Int.natCast_nonneg _) ?_
                      refine hd_getR (n := 2542) pkX18_shareOf rfl (g97.cell 0 rfl).1 (g97.cell 0 rfl).2.1 (g97.ref 7 rfl) ?_
                      refine hd_iload pkX18_shareOf rfl rfl ?_
                      refine hd_lald (n := 32) pkX18_shareOf rfl (g97.cell 8 rfl) (by omega) (by omega) (fun v10 ev10 rv10 => ?_)
                      have hbk := hb e (by omega) (by omega)
                      have qv10 : ga h0 2542 e = v10 := by rw [ev10]; exact (hOD.ga (by decide) _).symm
                      subst qv10
                      refine hd_lmul pkX18_shareOf rfl (by omega) ?_
                      generalize etp : (2 * (ga h0 2542 e)) = tp
                      have tpb : 2 ≤ tp ∧ tp ≤ 2000000 := by omega
                      refine hd_callV pkX18_shareOf rfl (q := (KX18_takePrimes, yX18_takePrimes, 18, 1, 0)) rfl rfl rfl (As := [(1, tp)]) (rest := []) (c := 2534) rfl rfl (Nat.le_of_ble_eq_true rfl) (g97.cell 0 rfl).1 (g97.cell 0 rfl).2.1 (h_X18_takePrimes tpb duD dlD v1D g97) (hd_bV (fun hc11 p9 => ?_))
                      have ghc11 : Str t18c r18c hc11 := g97.only p9.1 (by decide)
                      have o9 : Only [2547, 2548, 2549] h0 hc11 := hOD.trans (p9.1.mono (by decide))
                      refine hd_iinc (z := 1) pkX18_shareOf rfl rfl (by omega) rfl ?_
                      change MW _ _ _ _ _ [(5, (0, (e + 1))), (0, (2, ((2534 : Nat) : Int))), (1, (0, fi)), (2, (0, la)), (3, (1, mn))] _ _
                      refine hd_goto pkX18_shareOf rfl ?_
                      refine m_sub [(0, (2, ((2534 : Nat) : Int))), (1, (0, fi)), (2, (0, la)), (3, (1, mn)), (5, (0, (e + 1)))] (List.forall_mem_cons.mpr ⟨rfl, List.forall_mem_cons.mpr ⟨rfl, List.forall_mem_cons.mpr ⟨rfl, List.forall_mem_cons.mpr ⟨rfl, List.forall_mem_cons.mpr ⟨rfl, fun _ h => absurd h List.not_mem_nil⟩⟩⟩⟩⟩) ?_
                      refine ih97  ((e + 1)) hc11 ghc11 ?_ ?_ ?_ ?_ ?_ ?_
                      · exact o9
                      · exact p9.2.1
                      · exact p9.2.2.1
                      · exact p9.2.2.2
                      · omega
                      · omega
              refine m_sub [(0, (2, ((2534 : Nat) : Int))), (1, (0, fi)), (2, (0, la)), (3, (1, mn)), (5, (0, 0))] (List.forall_mem_cons.mpr ⟨rfl, List.forall_mem_cons.mpr ⟨rfl, List.forall_mem_cons.mpr ⟨rfl, List.forall_mem_cons.mpr ⟨rfl, List.forall_mem_cons.mpr ⟨rfl, fun _ h => absurd h List.not_mem_nil⟩⟩⟩⟩⟩) ?_
              refine lp97 (((32 : Int) - (0)) + 1).toNat (0) hc6 ghc6 ?_ ?_ ?_ ?_ ?_ ?_
              · exact o8
              · exact p8.2
              · rw [el8]
                exact dlB
              · rw [el8]
                exact v1B
              · omega
              · omega
            · skip
              refine hd_aload pkX18_shareOf rfl rfl (Int.natCast_nonneg _) ?_
              refine hd_getR (n := 2546) pkX18_shareOf rfl (g44.cell 0 rfl).1 (g44.cell 0 rfl).2.1 (g44.ref 11 rfl) ?_
              refine hd_iload pkX18_shareOf rfl rfl ?_
              refine hd_iald (n := 32) pkX18_shareOf rfl (g44.cell 12 rfl) (by omega) (by omega) (fun v12 ev12 rv12 => ?_)
              have qv12 : ga h0 2546 j = v12 := by rw [ev12]; exact (hOB.ga (by decide) _).symm
              subst qv12
              refine hd_if_le pkX18_shareOf rfl (fun c13 => ?_) (fun c13 => ?_)
              · skip
                refine hd_iinc (z := 1) pkX18_shareOf rfl rfl (by omega) rfl ?_
                change MW _ _ _ _ _ [(5, (0, (j + 1))), (0, (2, ((2534 : Nat) : Int))), (1, (0, fi)), (2, (0, la)), (3, (1, mn))] _ _
                refine hd_goto pkX18_shareOf rfl ?_
                refine m_sub [(0, (2, ((2534 : Nat) : Int))), (1, (0, fi)), (2, (0, la)), (3, (1, mn)), (5, (0, (j + 1)))] (List.forall_mem_cons.mpr ⟨rfl, List.forall_mem_cons.mpr ⟨rfl, List.forall_mem_cons.mpr ⟨rfl, List.forall_mem_cons.mpr ⟨rfl, List.forall_mem_cons.mpr ⟨rfl, fun _ h => absurd h List.not_mem_nil⟩⟩⟩⟩⟩) ?_
                refine ih44  ((j + 1)) hB g44 ?_ ?_ ?_ ?_ ?_ ?_
                · exact hOB
                · exact duB
                · exact dlB
                · exact v1B
                · omega
                · omega
              · skip
                refine hd_ipush (z := 0) pkX18_shareOf rfl ?_
                refine hd_istore pkX18_shareOf rfl rfl ?_
                change MW _ _ _ _ _ [(6, (0, 0)), (0, (2, ((2534 : Nat) : Int))), (1, (0, fi)), (2, (0, la)), (3, (1, mn)), (5, (0, j))] _ _
                have lp54 : ∀ (N54 : Nat) (i : Int) (hI : MH), Str t18c r18c hI → (Only [2549] hB hI) → (0 ≤ i ∧ i ≤ 64) → (∀ v : Int, 0 ≤ v → v < i → 0 ≤ ga hI 2549 v ∧ ga hI 2549 v ≤ 65535) → (64 : Int) - i < (N54 : Int) → MW KX18_shareOf Q 0 0 (pcA pgX18_shareOf 54) [(0, (2, ((2534 : Nat) : Int))), (1, (0, fi)), (2, (0, la)), (3, (1, mn)), (5, (0, j)), (6, (0, i))] [] hI := by
                  intro N54
                  induction N54 with
                  | zero => intro i hI g54 hOI i0 io hm54; exfalso; omega
                  | succ N54 ih54 =>
                    intro i hI g54 hOI i0 io hm54
                    refine hd_iload pkX18_shareOf rfl rfl ?_
                    refine hd_ipush (z := 64) pkX18_shareOf rfl ?_
                    refine hd_ic_ge pkX18_shareOf rfl (fun c14 => ?_) (fun c14 => ?_)
                    · skip
                      refine hd_aload pkX18_shareOf rfl rfl (Int.natCast_nonneg _) ?_
                      refine hd_getR (n := 2549) pkX18_shareOf rfl (g54.cell 0 rfl).1 (g54.cell 0 rfl).2.1 (g54.ref 14 rfl) ?_
                      refine hd_lpush (z := 2) pkX18_shareOf rfl ?_
                      refine hd_aload pkX18_shareOf rfl rfl (Int.natCast_nonneg _) ?_
                      refine hd_getR (n := 2542) pkX18_shareOf rfl (g54.cell 0 rfl).1 (g54.cell 0 rfl).2.1 (g54.ref 7 rfl) ?_
                      refine hd_iload pkX18_shareOf rfl rfl ?_
                      refine hd_lald (n := 32) pkX18_shareOf rfl (g54.cell 8 rfl) (by omega) (by omega) (fun v15 ev15 rv15 => ?_)
                      have hbk := hb j (by omega) (by omega)
                      have qv15 : ga h0 2542 j = v15 := by rw [ev15]; exact ((hOI.ga (by decide) _).trans (hOB.ga (by decide) _)).symm
                      subst qv15
                      refine hd_lmul pkX18_shareOf rfl (by omega) ?_
                      generalize etv : (2 * (ga h0 2542 j)) = tv
                      have tvb : 2 ≤ tv ∧ tv ≤ 2000000 := by omega
                      refine hd_callS pkX18_shareOf rfl (q := (KX18_divide, yX18_divide, 18, 2, 1)) rfl rfl rfl (As := [(2, ((2549 : Nat) : Int)), (1, tv)]) (rest := []) rfl rfl (Nat.le_of_ble_eq_true rfl) rfl (h_X18_divide (c := 2549) (m := tv) (by decide) (by omega) (fun v a b => io v a (by omega)) (Str1 g54 (by decide))) (hd_bV (fun hc16 p5 => ?_))
                      have ghc16 : Str t18c r18c hc16 := g54.only p5.1 (by decide)
                      have o5 : Only [2549] hB hc16 := hOI.trans p5.1
                      refine hd_aload pkX18_shareOf rfl rfl (Int.natCast_nonneg _) ?_
                      refine hd_getR (n := 2549) pkX18_shareOf rfl (ghc16.cell 0 rfl).1 (ghc16.cell 0 rfl).2.1 (ghc16.ref 14 rfl) ?_
                      refine hd_aload pkX18_shareOf rfl rfl (Int.natCast_nonneg _) ?_
                      refine hd_getR (n := 2546) pkX18_shareOf rfl (ghc16.cell 0 rfl).1 (ghc16.cell 0 rfl).2.1 (ghc16.ref 11 rfl) ?_
                      refine hd_iload pkX18_shareOf rfl rfl ?_
                      refine hd_iald (n := 32) pkX18_shareOf rfl (ghc16.cell 12 rfl) (by omega) (by omega) (fun v17 ev17 rv17 => ?_)
                      have qv17 : ga h0 2546 j = v17 := by rw [ev17]; exact ((o5.ga (by decide) _).trans (hOB.ga (by decide) _)).symm
                      subst qv17
                      refine hd_i2l pkX18_shareOf rfl ?_
                      refine hd_callS pkX18_shareOf rfl (q := (KX18_times, yX18_times, 18, 2, 1)) rfl rfl rfl (As := [(2, ((2549 : Nat) : Int)), (1, (ga h0 2546 j))]) (rest := []) rfl rfl (Nat.le_of_ble_eq_true rfl) rfl (h_X18_timesW (c := 2549) (m := ga h0 2546 j) (by decide) (Str1 ghc16 (by decide))) (hd_bV (fun hc18 p6 => ?_))
                      have ghc18 : Str t18c r18c hc18 := ghc16.only p6.1 (by decide)
                      have o6 : Only [2549] hB hc18 := o5.trans p6.1
                      have eu6 : ga hc18 2547 = ga hB 2547 := onlyF o6 (by decide)
                      refine hd_aload pkX18_shareOf rfl rfl (Int.natCast_nonneg _) ?_
                      refine hd_getR (n := 2547) pkX18_shareOf rfl (ghc18.cell 0 rfl).1 (ghc18.cell 0 rfl).2.1 (ghc18.ref 12 rfl) ?_
                      refine hd_aload pkX18_shareOf rfl rfl (Int.natCast_nonneg _) ?_
                      refine hd_getR (n := 2549) pkX18_shareOf rfl (ghc18.cell 0 rfl).1 (ghc18.cell 0 rfl).2.1 (ghc18.ref 14 rfl) ?_
                      refine hd_callS pkX18_shareOf rfl (q := (KX18_add, yX18_add, 18, 2, 1)) rfl rfl rfl (As := [(2, ((2547 : Nat) : Int)), (2, ((2549 : Nat) : Int))]) (rest := []) rfl rfl (Nat.le_of_ble_eq_true rfl) rfl (h_X18_add (c := 2547) (m := 2549) (by decide) (by decide) (by decide) (by rw [eu6]; exact duB) p6.2 (Str2 ghc18 (by decide) (by decide))) (hd_bV (fun hc19 pa => ?_))
                      have ghc19 : Str t18c r18c hc19 := ghc18.only pa.1 (by decide)
                      have o7 : Only [2547, 2548, 2549] h0 hc19 := hOB.trans ((o6.mono (by decide)).trans (pa.1.mono (by decide)))
                      have el7 : ga hc19 2548 = ga hB 2548 := (onlyF pa.1 (by decide)).trans (onlyF o6 (by decide))
                      refine hd_iinc (z := 1) pkX18_shareOf rfl rfl (by omega) rfl ?_
                      change MW _ _ _ _ _ [(5, (0, (j + 1))), (0, (2, ((2534 : Nat) : Int))), (1, (0, fi)), (2, (0, la)), (3, (1, mn)), (6, (0, i))] _ _
                      refine hd_goto pkX18_shareOf rfl ?_
                      refine m_sub [(0, (2, ((2534 : Nat) : Int))), (1, (0, fi)), (2, (0, la)), (3, (1, mn)), (5, (0, (j + 1)))] (List.forall_mem_cons.mpr ⟨rfl, List.forall_mem_cons.mpr ⟨rfl, List.forall_mem_cons.mpr ⟨rfl, List.forall_mem_cons.mpr ⟨rfl, List.forall_mem_cons.mpr ⟨rfl, fun _ h => absurd h List.not_mem_nil⟩⟩⟩⟩⟩) ?_
                      refine ih44  ((j + 1)) hc19 ghc19 ?_ ?_ ?_ ?_ ?_ ?_
                      · exact o7
                      · exact pa.2
                      · rw [el7]
                        exact dlB
                      · rw [el7]
                        exact v1B
                      · omega
                      · omega
                    · skip
                      refine hd_aload pkX18_shareOf rfl rfl (Int.natCast_nonneg _) ?_
                      refine hd_getR (n := 2549) pkX18_shareOf rfl (g54.cell 0 rfl).1 (g54.cell 0 rfl).2.1 (g54.ref 14 rfl) ?_
                      refine hd_iload pkX18_shareOf rfl rfl ?_
                      refine hd_aload pkX18_shareOf rfl rfl (Int.natCast_nonneg _) ?_
                      refine hd_getR (n := 2548) pkX18_shareOf rfl (g54.cell 0 rfl).1 (g54.cell 0 rfl).2.1 (g54.ref 13 rfl) ?_
                      refine hd_iload pkX18_shareOf rfl rfl ?_
                      refine hd_iald (n := 64) pkX18_shareOf rfl (g54.cell 14 rfl) (by omega) (by omega) (fun v20 ev20 rv20 => ?_)
                      have qv20 : ga hI 2548 i = v20 := ev20.symm
                      subst qv20
                      refine hd_iast (n := 64) pkX18_shareOf rfl (g54.cell 15 rfl) (by decide) (by omega) (by omega) (fun hh21 ehh21 => ?_)
                      have ghh21 : Str t18c r18c hh21 := by rw [ehh21]; exact g54.setA rfl
                      have oI2 : Only [2549] hB hh21 := by rw [ehh21]; exact hOI.set List.mem_cons_self
                      have fI2 : ∀ v : Int, 0 ≤ v → ga hh21 2549 v = if v = i then ga hI 2548 i else ga hI 2549 v := fun v a => by rw [ehh21]; exact ga_sa _ _ _ i0.1 a
                      refine hd_iinc (z := 1) pkX18_shareOf rfl rfl (by omega) rfl ?_
                      change MW _ _ _ _ _ [(6, (0, (i + 1))), (0, (2, ((2534 : Nat) : Int))), (1, (0, fi)), (2, (0, la)), (3, (1, mn)), (5, (0, j))] _ _
                      refine hd_goto pkX18_shareOf rfl ?_
                      refine m_sub [(0, (2, ((2534 : Nat) : Int))), (1, (0, fi)), (2, (0, la)), (3, (1, mn)), (5, (0, j)), (6, (0, (i + 1)))] (List.forall_mem_cons.mpr ⟨rfl, List.forall_mem_cons.mpr ⟨rfl, List.forall_mem_cons.mpr ⟨rfl, List.forall_mem_cons.mpr ⟨rfl, List.forall_mem_cons.mpr ⟨rfl, List.forall_mem_cons.mpr ⟨rfl, fun _ h => absurd h List.not_mem_nil⟩⟩⟩⟩⟩⟩) ?_
                      refine ih54  ((i + 1)) hh21 ghh21 ?_ ?_ ?_ ?_
                      · exact oI2
                      · omega
                      · intro v a b
                        rw [fI2 v a]
                        split
                        · rw [onlyF hOI (by decide)]
                          exact dlB i i0.1 (by omega)
                        · exact io v a (by omega)
                      · omega
                refine m_sub [(0, (2, ((2534 : Nat) : Int))), (1, (0, fi)), (2, (0, la)), (3, (1, mn)), (5, (0, j)), (6, (0, 0))] (List.forall_mem_cons.mpr ⟨rfl, List.forall_mem_cons.mpr ⟨rfl, List.forall_mem_cons.mpr ⟨rfl, List.forall_mem_cons.mpr ⟨rfl, List.forall_mem_cons.mpr ⟨rfl, List.forall_mem_cons.mpr ⟨rfl, fun _ h => absurd h List.not_mem_nil⟩⟩⟩⟩⟩⟩) ?_
                refine lp54 (((64 : Int) - (0)) + 1).toNat (0) hB g44 ?_ ?_ ?_ ?_
                · exact Only.refl _ _
                · omega
                · intro v a b
                  omega
                · omega
        refine m_sub [(0, (2, ((2534 : Nat) : Int))), (1, (0, fi)), (2, (0, la)), (3, (1, mn)), (5, (0, 0))] (List.forall_mem_cons.mpr ⟨rfl, List.forall_mem_cons.mpr ⟨rfl, List.forall_mem_cons.mpr ⟨rfl, List.forall_mem_cons.mpr ⟨rfl, List.forall_mem_cons.mpr ⟨rfl, fun _ h => absurd h List.not_mem_nil⟩⟩⟩⟩⟩) ?_
        refine lp44 (((32 : Int) - (0)) + 1).toNat (0) hc4 ghc4 ?_ ?_ ?_ ?_ ?_ ?_
        · exact o3
        · exact pz.2.1
        · rw [el3]
          exact dl
        · rw [el3]
          exact v1.1
        · omega
        · omega
      · skip
        refine hd_aload pkX18_shareOf rfl rfl (Int.natCast_nonneg _) ?_
        refine hd_getR (n := 2546) pkX18_shareOf rfl (g10.cell 0 rfl).1 (g10.cell 0 rfl).2.1 (g10.ref 11 rfl) ?_
        refine hd_iload pkX18_shareOf rfl rfl ?_
        refine hd_iald (n := 32) pkX18_shareOf rfl (g10.cell 12 rfl) (by omega) (by omega) (fun v22 ev22 rv22 => ?_)
        have qv22 : ga h0 2546 k = v22 := by rw [ev22]; exact (hO.ga (by decide) _).symm
        subst qv22
        refine hd_if_le pkX18_shareOf rfl (fun c23 => ?_) (fun c23 => ?_)
        · skip
          refine hd_iinc (z := 1) pkX18_shareOf rfl rfl (by omega) rfl ?_
          change MW _ _ _ _ _ [(5, (0, (k + 1))), (0, (2, ((2534 : Nat) : Int))), (1, (0, fi)), (2, (0, la)), (3, (1, mn))] _ _
          refine hd_goto pkX18_shareOf rfl ?_
          refine m_sub [(0, (2, ((2534 : Nat) : Int))), (1, (0, fi)), (2, (0, la)), (3, (1, mn)), (5, (0, (k + 1)))] (List.forall_mem_cons.mpr ⟨rfl, List.forall_mem_cons.mpr ⟨rfl, List.forall_mem_cons.mpr ⟨rfl, List.forall_mem_cons.mpr ⟨rfl, List.forall_mem_cons.mpr ⟨rfl, fun _ h => absurd h List.not_mem_nil⟩⟩⟩⟩⟩) ?_
          refine ih10  ((k + 1)) hA g10 ?_ ?_ ?_ ?_ ?_
          · exact hO
          · exact dl
          · omega
          · rw [show (k + 1).toNat = k.toNat + 1 by omega]
            refine ⟨v1.1, Int.le_trans v1.2 ?_⟩
            rw [Int.pow_succ]
            have := Int.mul_le_mul_of_nonneg_left (show (1 : Int) ≤ 2000000 by decide) (show (0 : Int) ≤ 2000000 ^ k.toNat by omega)
            omega
          · omega
        · skip
          refine hd_lpush (z := 2) pkX18_shareOf rfl ?_
          refine hd_aload pkX18_shareOf rfl rfl (Int.natCast_nonneg _) ?_
          refine hd_getR (n := 2542) pkX18_shareOf rfl (g10.cell 0 rfl).1 (g10.cell 0 rfl).2.1 (g10.ref 7 rfl) ?_
          refine hd_iload pkX18_shareOf rfl rfl ?_
          refine hd_lald (n := 32) pkX18_shareOf rfl (g10.cell 8 rfl) (by omega) (by omega) (fun v24 ev24 rv24 => ?_)
          have hbk := hb k (by omega) (by omega)
          have qv24 : ga h0 2542 k = v24 := by rw [ev24]; exact (hO.ga (by decide) _).symm
          subst qv24
          refine hd_lmul pkX18_shareOf rfl (by omega) ?_
          generalize etw : (2 * (ga h0 2542 k)) = tw
          have twb : 2 ≤ tw ∧ tw ≤ 2000000 := by omega
          refine hd_lstore pkX18_shareOf rfl rfl ?_
          change MW _ _ _ _ _ [(6, (1, tw)), (0, (2, ((2534 : Nat) : Int))), (1, (0, fi)), (2, (0, la)), (3, (1, mn)), (5, (0, k))] _ _
          refine hd_aload pkX18_shareOf rfl rfl (Int.natCast_nonneg _) ?_
          refine hd_getR (n := 2548) pkX18_shareOf rfl (g10.cell 0 rfl).1 (g10.cell 0 rfl).2.1 (g10.ref 13 rfl) ?_
          refine hd_lload pkX18_shareOf rfl rfl ?_
          refine hd_lload pkX18_shareOf rfl rfl ?_
          refine hd_aload pkX18_shareOf rfl rfl (Int.natCast_nonneg _) ?_
          refine hd_getR (n := 2548) pkX18_shareOf rfl (g10.cell 0 rfl).1 (g10.cell 0 rfl).2.1 (g10.ref 13 rfl) ?_
          refine hd_lload pkX18_shareOf rfl rfl ?_
          refine hd_callS pkX18_shareOf rfl (q := (KX18_restBy, yX18_restBy, 18, 2, 1)) rfl rfl rfl (As := [(2, ((2548 : Nat) : Int)), (1, tw)]) (rest := [(1, tw), (1, tw), (2, ((2548 : Nat) : Int))]) rfl rfl (Nat.le_of_ble_eq_true rfl) rfl (h_X18_restBy (c := 2548) (m := tw) (by decide) (by omega) dl (Str1 g10 (by decide))) (hd_bL (fun rr hc25 pr => ?_))
          obtain ⟨pr, ehc25⟩ := pr
          replace ehc25 := ehc25.symm
          subst ehc25
          have rrb : 0 ≤ rr ∧ rr < tw := by rw [pr]; exact ⟨Int.emod_nonneg _ (by omega), Int.emod_lt_of_pos _ (by omega)⟩
          refine hd_callS pkX18_shareOf rfl (q := (KX18_divisor, yX18_divisor, 18, 2, 1)) rfl rfl rfl (As := [(1, tw), (1, rr)]) (rest := [(1, tw), (2, ((2548 : Nat) : Int))]) rfl rfl (Nat.le_of_ble_eq_true rfl) rfl (h_X18_divisor (a := tw) (b := rr) (by omega) (by omega) g10) (hd_bL (fun dd hc26 pd => ?_))
          obtain ⟨pd, ehc26⟩ := pd
          replace ehc26 := ehc26.symm
          subst ehc26
          refine hd_ldiv pkX18_shareOf rfl (by omega) (by have e9 := tdiv12 (x := tw) (y := dd) (by omega) (by omega); omega) ?_
          generalize emm : (Int.tdiv tw dd) = mm
          rw [(tdiv12 (by omega) (by omega)).1] at emm
          have mmb : 1 ≤ mm ∧ mm ≤ 2000000 := by
            have a := (tdiv12 (x := tw) (y := dd) (by omega) (by omega)).2
            have b : 1 ≤ tw / dd := (Int.le_ediv_iff_mul_le (by omega)).mpr (by omega)
            omega
          have pw := pow18 (n := k.toNat) (by omega) v1.2 mmb v1.1
          refine hd_callS pkX18_shareOf rfl (q := (KX18_times, yX18_times, 18, 2, 1)) rfl rfl rfl (As := [(2, ((2548 : Nat) : Int)), (1, mm)]) (rest := []) rfl rfl (Nat.le_of_ble_eq_true rfl) rfl (h_X18_times (c := 2548) (m := mm) (by decide) (by omega) dl (Str1 g10 (by decide))) (hd_bV (fun hc27 pt => ?_))
          have ghc27 : Str t18c r18c hc27 := g10.only pt.1 (by decide)
          have o2 : Only [2547, 2548, 2549] h0 hc27 := hO.trans (pt.1.mono (by decide))
          refine hd_iinc (z := 1) pkX18_shareOf rfl rfl (by omega) rfl ?_
          change MW _ _ _ _ _ [(5, (0, (k + 1))), (6, (1, tw)), (0, (2, ((2534 : Nat) : Int))), (1, (0, fi)), (2, (0, la)), (3, (1, mn))] _ _
          refine hd_goto pkX18_shareOf rfl ?_
          refine m_sub [(0, (2, ((2534 : Nat) : Int))), (1, (0, fi)), (2, (0, la)), (3, (1, mn)), (5, (0, (k + 1)))] (List.forall_mem_cons.mpr ⟨rfl, List.forall_mem_cons.mpr ⟨rfl, List.forall_mem_cons.mpr ⟨rfl, List.forall_mem_cons.mpr ⟨rfl, List.forall_mem_cons.mpr ⟨rfl, fun _ h => absurd h List.not_mem_nil⟩⟩⟩⟩⟩) ?_
          refine ih10  ((k + 1)) hc27 ghc27 ?_ ?_ ?_ ?_ ?_
          · exact o2
          · exact pt.2.1
          · omega
          · rw [show (k + 1).toNat = k.toNat + 1 by omega, pt.2.2 (Int.lt_of_le_of_lt pw.1 (pw18 (by omega)))]
            exact ⟨pw.2, pw.1⟩
          · omega
  refine m_sub [(0, (2, ((2534 : Nat) : Int))), (1, (0, fi)), (2, (0, la)), (3, (1, mn)), (5, (0, 0))] (List.forall_mem_cons.mpr ⟨rfl, List.forall_mem_cons.mpr ⟨rfl, List.forall_mem_cons.mpr ⟨rfl, List.forall_mem_cons.mpr ⟨rfl, List.forall_mem_cons.mpr ⟨rfl, fun _ h => absurd h List.not_mem_nil⟩⟩⟩⟩⟩) ?_
  refine lp10 (((32 : Int) - (0)) + 1).toNat (0) hc2 ghc2 ?_ ?_ ?_ ?_ ?_
  · exact o1
  · exact ps.2.1
  · omega
  · rw [ps.2.2]
    exact ⟨by decide, by decide⟩
  · omega
