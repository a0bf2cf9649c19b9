/-! X18 by hand: its methods -/
set_option maxRecDepth 20000 in
set_option maxHeartbeats 8000000 in
theorem h_X18_takePrimes {h : MH} {of : Int} (ho : 2 ≤ of ∧ of ≤ 2000000) (du0 : D18 (ga h 2547)) (dl0 : D18 (ga h 2548)) (v0 : 1 ≤ hv18 (ga h 2548) 64) (g : Str t18c r18c h) : MCal KX18_takePrimes yX18_takePrimes 0 0 [(2, ((2534 : Nat) : Int)), (1, of)] h (mRV fun h' => Only [2547, 2548] h h' ∧ D18 (ga h' 2547) ∧ D18 (ga h' 2548) ∧ 1 ≤ hv18 (ga h' 2548) 64) := by
  refine MCal.ofMW (Or.inl rfl) ⟨cp_X18, rfl⟩ (Nat.le_of_ble_eq_true rfl) ?_
  generalize eQ : (mRV fun h' => Only [2547, 2548] h h' ∧ D18 (ga h' 2547) ∧ D18 (ga h' 2548) ∧ 1 ≤ hv18 (ga h' 2548) 64 : MO → MH → Prop) = Q
  change MW KX18_takePrimes Q 0 0 (pcA pgX18_takePrimes 0) [(0, (2, ((2534 : Nat) : Int))), (1, (1, of))] [] h
  refine hd_locL (i := 1) rfl (fun rof => ?_)
  refine hd_lload pkX18_takePrimes rfl rfl ?_
  refine hd_lstore pkX18_takePrimes rfl rfl ?_
  change MW _ _ _ _ _ [(3, (1, of)), (0, (2, ((2534 : Nat) : Int))), (1, (1, of))] _ _
  refine hd_lpush (z := 2) pkX18_takePrimes rfl ?_
  refine hd_lstore pkX18_takePrimes rfl rfl ?_
  change MW _ _ _ _ _ [(5, (1, 2)), (3, (1, of)), (0, (2, ((2534 : Nat) : Int))), (1, (1, of))] _ _
  have lp4 : ∀ (N4 : Nat) (le p : Int) (hA : MH), Str t18c r18c hA → (Only [2547, 2548] h hA) → (D18 (ga hA 2547)) → (D18 (ga hA 2548)) → (1 ≤ hv18 (ga hA 2548) 64) → (1 ≤ le ∧ le ≤ 2000000) → ((2 ≤ p ∧ p ≤ 2000001)) → 4000000 * le - p < (N4 : Int) → MW KX18_takePrimes Q 0 0 (pcA pgX18_takePrimes 4) [(0, (2, ((2534 : Nat) : Int))), (1, (1, of)), (3, (1, le)), (5, (1, p))] [] hA := by
    intro N4
    induction N4 with
    | zero => intro le p hA g4 hO du dl v1 lb pb hm4; exfalso; omega
    | succ N4 ih4 =>
      intro le p hA g4 hO du dl v1 lb pb hm4
      refine hd_lload pkX18_takePrimes rfl rfl ?_
      refine hd_lpush (z := 1) pkX18_takePrimes rfl ?_
      refine hd_lc_le pkX18_takePrimes rfl (fun c1 => ?_) (fun c1 => ?_)
      · skip
        refine hd_vret pkX18_takePrimes rfl ?_
        subst eQ
        exact ⟨rfl, hO, du, dl, v1⟩
      · skip
        have pp : 4 ≤ p * p ∧ p * p ≤ 2000001 * 2000001 := ⟨by have := Int.mul_le_mul pb.1 pb.1 (by decide) (by omega); omega, Int.mul_le_mul pb.2 pb.2 (by omega) (by decide)⟩
        have pq : p ≤ p * p := by have := Int.mul_le_mul_of_nonneg_left (show (1 : Int) ≤ p by omega) (show (0 : Int) ≤ p by omega); omega
        have cut16 : ∀ (pn : Int), (2 ≤ pn ∧ pn ≤ 2000000) → ((pn = p ∧ p ≤ le) ∨ pn = le) → MW KX18_takePrimes Q 0 0 (pcA pgX18_takePrimes 16) [(0, (2, ((2534 : Nat) : Int))), (1, (1, of)), (3, (1, le)), (5, (1, pn))] [] hA := by
          intro pn pn2 pnl
          refine hd_lload pkX18_takePrimes rfl rfl ?_
          refine hd_lload pkX18_takePrimes rfl rfl ?_
          refine hd_lrem pkX18_takePrimes rfl (by omega) (by have e9 := emod_of (x := le) (y := pn) (by omega) (by omega); omega) ?_
          generalize er1 : (Int.tmod le pn) = r1
          rw [(emod_of (by omega) (by omega)).1] at er1
          have cut56 : ∀ (l9 : Int) (hC : MH), Str t18c r18c hC → (Only [2547, 2548] h hC) → (D18 (ga hC 2547)) → (D18 (ga hC 2548)) → (1 ≤ hv18 (ga hC 2548) 64) → (1 ≤ l9 ∧ l9 ≤ le) → (pn = le → l9 = 1 ∨ False) → (l9 < le ∨ pn = p) → MW KX18_takePrimes Q 0 0 (pcA pgX18_takePrimes 56) [(0, (2, ((2534 : Nat) : Int))), (1, (1, of)), (3, (1, l9)), (5, (1, pn))] [] hC := by
            intro l9 hC gc56 hO2 du2 dl2 v2 l9b l9l l9m
            refine hd_lload pkX18_takePrimes rfl rfl ?_
            refine hd_lpush (z := 1) pkX18_takePrimes rfl ?_
            refine hd_ladd pkX18_takePrimes rfl (by omega) ?_
            refine hd_lstore pkX18_takePrimes rfl rfl ?_
            change MW _ _ _ _ _ [(5, (1, (pn + 1))), (0, (2, ((2534 : Nat) : Int))), (1, (1, of)), (3, (1, l9))] _ _
            refine hd_goto pkX18_takePrimes rfl ?_
            refine m_sub [(0, (2, ((2534 : Nat) : Int))), (1, (1, of)), (3, (1, l9)), (5, (1, (pn + 1)))] (List.forall_mem_cons.mpr ⟨rfl, List.forall_mem_cons.mpr ⟨rfl, List.forall_mem_cons.mpr ⟨rfl, List.forall_mem_cons.mpr ⟨rfl, fun _ h => absurd h List.not_mem_nil⟩⟩⟩⟩) ?_
            refine ih4  (l9) ((pn + 1)) hC gc56 ?_ ?_ ?_ ?_ ?_ ?_ ?_
            · exact hO2
            · exact du2
            · exact dl2
            · exact v2
            · omega
            · omega
            · omega
          refine hd_lpush (z := 0) pkX18_takePrimes rfl ?_
          refine hd_lc_ne pkX18_takePrimes rfl (fun c2 => ?_) (fun c2 => ?_)
          · skip
            refine cut56 (le) hA g4 ?_ ?_ ?_ ?_ ?_ ?_ ?_
            · exact hO
            · exact du
            · exact dl
            · exact v1
            · omega
            · intro w
              exfalso
              rw [w, Int.emod_self] at er1
              omega
            · rcases pnl with ⟨w, _⟩ | w
              · right
                exact w
              · exfalso
                rw [w, Int.emod_self] at er1
                omega
          · skip
            have lp22 : ∀ (N22 : Nat) (lf : Int), (1 ≤ lf ∧ lf ≤ le) → (pn = le → lf = le ∨ lf = 1) → lf < (N22 : Int) → MW KX18_takePrimes Q 0 0 (pcA pgX18_takePrimes 22) [(0, (2, ((2534 : Nat) : Int))), (1, (1, of)), (3, (1, lf)), (5, (1, pn))] [] hA := by
              intro N22
              induction N22 with
              | zero => intro lf lfb lfl hm22; exfalso; omega
              | succ N22 ih22 =>
                intro lf lfb lfl hm22
                refine hd_lload pkX18_takePrimes rfl rfl ?_
                refine hd_lload pkX18_takePrimes rfl rfl ?_
                refine hd_lrem pkX18_takePrimes rfl (by omega) (by have e9 := emod_of (x := lf) (y := pn) (by omega) (by omega); omega) ?_
                generalize er3 : (Int.tmod lf pn) = r3
                rw [(emod_of (by omega) (by omega)).1] at er3
                refine hd_lpush (z := 0) pkX18_takePrimes rfl ?_
                refine hd_lc_ne pkX18_takePrimes rfl (fun c3 => ?_) (fun c3 => ?_)
                · skip
                  have lp33 : ∀ (N33 : Nat) (hB : MH), Str t18c r18c hB → (Only [2547, 2548] h hB) → (D18 (ga hB 2547)) → (D18 (ga hB 2548)) → (1 ≤ hv18 (ga hB 2548) 64) → hv18 (ga hB 2548) 64 < (N33 : Int) → MW KX18_takePrimes Q 0 0 (pcA pgX18_takePrimes 33) [(0, (2, ((2534 : Nat) : Int))), (1, (1, of)), (3, (1, lf)), (5, (1, pn))] [] hB := by
                    intro N33
                    induction N33 with
                    | zero => intro hB g33 hOB duB dlB v1B hm33; exfalso; omega
                    | succ N33 ih33 =>
                      intro hB g33 hOB duB dlB v1B hm33
                      refine hd_aload pkX18_takePrimes rfl rfl (Int.natCast_nonneg _) ?_
                      refine hd_getR (n := 2547) pkX18_takePrimes rfl (g33.cell 0 rfl).1 (g33.cell 0 rfl).2.1 (g33.ref 12 rfl) ?_
                      refine hd_lload pkX18_takePrimes rfl rfl ?_
                      refine hd_callS pkX18_takePrimes rfl (q := (KX18_restBy, yX18_restBy, 18, 2, 1)) rfl rfl rfl (As := [(2, ((2547 : Nat) : Int)), (1, pn)]) (rest := []) rfl rfl (Nat.le_of_ble_eq_true rfl) rfl (h_X18_restBy (c := 2547) (m := pn) (by decide) (by omega) duB (Str1 g33 (by decide))) (hd_bL (fun w4 hc5 pu => ?_))
                      obtain ⟨pu, ehc5⟩ := pu
                      replace ehc5 := ehc5.symm
                      subst ehc5
                      refine hd_lpush (z := 0) pkX18_takePrimes rfl ?_
                      refine hd_lc_ne pkX18_takePrimes rfl (fun c6 => ?_) (fun c6 => ?_)
                      · skip
                        refine cut56 (lf) hB g33 ?_ ?_ ?_ ?_ ?_ ?_ ?_
                        · exact hOB
                        · exact duB
                        · exact dlB
                        · exact v1B
                        · omega
                        · intro w
                          left
                          rcases lfl w with w2 | w2
                          · exfalso
                            rw [w2, w, Int.emod_self] at er3
                            omega
                          · exact w2
                        · left
                          have : ¬ lf = le := fun w => by
                            rw [w] at er3
                            omega
                          omega
                      · skip
                        refine hd_aload pkX18_takePrimes rfl rfl (Int.natCast_nonneg _) ?_
                        refine hd_getR (n := 2548) pkX18_takePrimes rfl (g33.cell 0 rfl).1 (g33.cell 0 rfl).2.1 (g33.ref 13 rfl) ?_
                        refine hd_lload pkX18_takePrimes rfl rfl ?_
                        refine hd_callS pkX18_takePrimes rfl (q := (KX18_restBy, yX18_restBy, 18, 2, 1)) rfl rfl rfl (As := [(2, ((2548 : Nat) : Int)), (1, pn)]) (rest := []) rfl rfl (Nat.le_of_ble_eq_true rfl) rfl (h_X18_restBy (c := 2548) (m := pn) (by decide) (by omega) dlB (Str1 g33 (by decide))) (hd_bL (fun w7 hc8 pl => ?_))
                        obtain ⟨pl, ehc8⟩ := pl
                        replace ehc8 := ehc8.symm
                        subst ehc8
                        refine hd_lpush (z := 0) pkX18_takePrimes rfl ?_
                        refine hd_lc_ne pkX18_takePrimes rfl (fun c9 => ?_) (fun c9 => ?_)
                        · skip
                          refine cut56 (lf) hB g33 ?_ ?_ ?_ ?_ ?_ ?_ ?_
                          · exact hOB
                          · exact duB
                          · exact dlB
                          · exact v1B
                          · omega
                          · intro w
                            left
                            rcases lfl w with w2 | w2
                            · exfalso
                              rw [w2, w, Int.emod_self] at er3
                              omega
                            · exact w2
                          · left
                            have : ¬ lf = le := fun w => by
                              rw [w] at er3
                              omega
                            omega
                        · skip
                          refine hd_aload pkX18_takePrimes rfl rfl (Int.natCast_nonneg _) ?_
                          refine hd_getR (n := 2547) pkX18_takePrimes rfl (g33.cell 0 rfl).1 (g33.cell 0 rfl).2.1 (g33.ref 12 rfl) ?_
                          refine hd_lload pkX18_takePrimes rfl rfl ?_
                          refine hd_callS pkX18_takePrimes rfl (q := (KX18_divide, yX18_divide, 18, 2, 1)) rfl rfl rfl (As := [(2, ((2547 : Nat) : Int)), (1, pn)]) (rest := []) rfl rfl (Nat.le_of_ble_eq_true rfl) rfl (h_X18_divide (c := 2547) (m := pn) (by decide) (by omega) duB (Str1 g33 (by decide))) (hd_bV (fun hc10 pd => ?_))
                          have ghc10 : Str t18c r18c hc10 := g33.only pd.1 (by decide)
                          have oB2 : Only [2547, 2548] h hc10 := hOB.trans (pd.1.mono (by decide))
                          have dl3 : D18 (ga hc10 2548) := by rw [onlyF pd.1 (by decide)]; exact dlB
                          have el3 : ga hc10 2548 = ga hB 2548 := onlyF pd.1 (by decide)
                          refine hd_aload pkX18_takePrimes rfl rfl (Int.natCast_nonneg _) ?_
                          refine hd_getR (n := 2548) pkX18_takePrimes rfl (ghc10.cell 0 rfl).1 (ghc10.cell 0 rfl).2.1 (ghc10.ref 13 rfl) ?_
                          refine hd_lload pkX18_takePrimes rfl rfl ?_
                          refine hd_callS pkX18_takePrimes rfl (q := (KX18_divide, yX18_divide, 18, 2, 1)) rfl rfl rfl (As := [(2, ((2548 : Nat) : Int)), (1, pn)]) (rest := []) rfl rfl (Nat.le_of_ble_eq_true rfl) rfl (h_X18_divide (c := 2548) (m := pn) (by decide) (by omega) dl3 (Str1 ghc10 (by decide))) (hd_bV (fun hc11 pe => ?_))
                          have ghc11 : Str t18c r18c hc11 := ghc10.only pe.1 (by decide)
                          have oB3 : Only [2547, 2548] h hc11 := oB2.trans (pe.1.mono (by decide))
                          have du3 : D18 (ga hc11 2547) := by rw [onlyF pe.1 (by decide)]; exact pd.2.1
                          obtain ⟨V, eV⟩ : ∃ x : Int, x = hv18 (ga hB 2548) 64 := ⟨_, rfl⟩
                          have e5 := pe.2.2
                          rw [el3, ← eV] at e5
                          rw [← eV] at v1B pl
                          have d9 := Int.emod_add_mul_ediv V pn
                          have d8 := Int.ediv_lt_self_of_pos_of_ne_one (x := V) (y := pn) (by omega) (by omega)
                          have d7 : 1 ≤ V / pn := by
                            by_cases z : V / pn = 0
                            · rw [z, Int.mul_zero] at d9
                              omega
                            · have := Int.ediv_nonneg (a := V) (b := pn) (by omega) (by omega)
                              omega
                          refine hd_goto pkX18_takePrimes rfl ?_
                          refine ih33  hc11 ghc11 ?_ ?_ ?_ ?_ ?_
                          · exact oB3
                          · exact du3
                          · exact pe.2.1
                          · rw [e5]
                            exact d7
                          · rw [e5]; omega
                  refine lp33 ((hv18 (ga hA 2548) 64) + 1).toNat hA g4 ?_ ?_ ?_ ?_ ?_
                  · exact hO
                  · exact du
                  · exact dl
                  · exact v1
                  · omega
                · skip
                  refine hd_lload pkX18_takePrimes rfl rfl ?_
                  refine hd_lload pkX18_takePrimes rfl rfl ?_
                  refine hd_ldiv pkX18_takePrimes rfl (by omega) (by have e9 := tdiv12 (x := lf) (y := pn) (by omega) (by omega); omega) ?_
                  generalize eq9 : (Int.tdiv lf pn) = q9
                  rw [(tdiv12 (by omega) (by omega)).1] at eq9
                  have d9 := Int.emod_add_mul_ediv lf pn
                  have d8 := Int.ediv_lt_self_of_pos_of_ne_one (x := lf) (y := pn) (by omega) (by omega)
                  have d7 : 1 ≤ q9 := by
                    by_cases z : q9 = 0
                    · rw [eq9, z, Int.mul_zero] at d9
                      omega
                    · have := Int.ediv_nonneg (a := lf) (b := pn) (by omega) (by omega)
                      omega
                  refine hd_lstore pkX18_takePrimes rfl rfl ?_
                  change MW _ _ _ _ _ [(3, (1, q9)), (0, (2, ((2534 : Nat) : Int))), (1, (1, of)), (5, (1, pn))] _ _
                  refine hd_goto pkX18_takePrimes rfl ?_
                  refine m_sub [(0, (2, ((2534 : Nat) : Int))), (1, (1, of)), (3, (1, q9)), (5, (1, pn))] (List.forall_mem_cons.mpr ⟨rfl, List.forall_mem_cons.mpr ⟨rfl, List.forall_mem_cons.mpr ⟨rfl, List.forall_mem_cons.mpr ⟨rfl, fun _ h => absurd h List.not_mem_nil⟩⟩⟩⟩) ?_
                  refine ih22  (q9) ?_ ?_ ?_
                  · omega
                  · intro w
                    rcases lfl w with w2 | w2
                    · right
                      rw [w2, ← w, Int.ediv_self (by omega)] at eq9
                      omega
                    · exfalso
                      rw [w2, Int.emod_eq_of_lt (by decide) (by omega)] at er3
                      omega
                  · omega
            refine lp22 (((le)) + 1).toNat (le) ?_ ?_ ?_
            · omega
            · omega
            · omega
        refine hd_lload pkX18_takePrimes rfl rfl ?_
        refine hd_lload pkX18_takePrimes rfl rfl ?_
        refine hd_lmul pkX18_takePrimes rfl (by omega) ?_
        generalize esq2 : (p * p) = sq2
        refine hd_lload pkX18_takePrimes rfl rfl ?_
        refine hd_lc_le pkX18_takePrimes rfl (fun c12 => ?_) (fun c12 => ?_)
        · skip
          refine cut16 (p) ?_ ?_
          · omega
          · omega
        · skip
          refine hd_lload pkX18_takePrimes rfl rfl ?_
          refine hd_lstore pkX18_takePrimes rfl rfl ?_
          change MW _ _ _ _ _ [(5, (1, le)), (0, (2, ((2534 : Nat) : Int))), (1, (1, of)), (3, (1, le))] _ _
          refine m_sub [(0, (2, ((2534 : Nat) : Int))), (1, (1, of)), (3, (1, le)), (5, (1, le))] (List.forall_mem_cons.mpr ⟨rfl, List.forall_mem_cons.mpr ⟨rfl, List.forall_mem_cons.mpr ⟨rfl, List.forall_mem_cons.mpr ⟨rfl, fun _ h => absurd h List.not_mem_nil⟩⟩⟩⟩) ?_
          refine cut16 (le) ?_ ?_
          · omega
          · omega
  refine m_sub [(0, (2, ((2534 : Nat) : Int))), (1, (1, of)), (3, (1, of)), (5, (1, 2))] (List.forall_mem_cons.mpr ⟨rfl, List.forall_mem_cons.mpr ⟨rfl, List.forall_mem_cons.mpr ⟨rfl, List.forall_mem_cons.mpr ⟨rfl, fun _ h => absurd h List.not_mem_nil⟩⟩⟩⟩) ?_
  refine lp4 ((4000000 * (of) - (2)) + 1).toNat (of) (2) h g ?_ ?_ ?_ ?_ ?_ ?_ ?_
  · exact Only.refl _ _
  · exact du0
  · exact dl0
  · exact v0
  · omega
  · omega
  · omega
