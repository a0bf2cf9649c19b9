set_option maxRecDepth 20000 in
set_option maxHeartbeats 8000000 in
theorem h_X19_prepare {h : MH} {cn : Int} (sn : S19 h cn) (q9 : Q9 h cn) (g : Str t19 r19 h) : MCal KX19_prepare yX19_prepare 0 0 [(2, ((2514 : Nat) : Int))] h (mRV fun h' => Only [2515, 2516, 2514] h h' ∧ (∀ j : Int, 0 ≤ j → j ≠ 6 → ga h' 2514 j = ga h 2514 j) ∧ ga h' 2514 6 ≠ 0 ∧ (LO h' ∧ CV h' cn) ∧ (ga h 2514 6 ≠ 0 → h' = h)) := by
  refine MCal.ofMW (Or.inl rfl) ⟨cp_X19, rfl⟩ (Nat.le_of_ble_eq_true rfl) ?_
  generalize eQ : (mRV fun h' => Only [2515, 2516, 2514] h h' ∧ (∀ j : Int, 0 ≤ j → j ≠ 6 → ga h' 2514 j = ga h 2514 j) ∧ ga h' 2514 6 ≠ 0 ∧ (LO h' ∧ CV h' cn) ∧ (ga h 2514 6 ≠ 0 → h' = h) : MO → MH → Prop) = Q
  change MW KX19_prepare Q 0 0 (pcA pgX19_prepare 0) [(0, (2, ((2514 : Nat) : Int)))] [] h
  have cb0 := sn.1.2.1
  have hO : Only [2515, 2516] h h := Only.refl _ _
  refine hd_aload pkX19_prepare rfl rfl (Int.natCast_nonneg _) ?_
  refine hd_getZ pkX19_prepare rfl (g.cell 0 rfl).1 (g.cell 0 rfl).2.1 (fun v1 ev1 rv1 => ?_)
  refine hd_if_eq pkX19_prepare rfl (fun c2 => ?_) (fun c2 => ?_)
  · skip
    refine hd_aload pkX19_prepare rfl rfl (Int.natCast_nonneg _) ?_
    refine hd_ipush (z := 14) pkX19_prepare rfl ?_
    refine hd_lpush (z := 1) pkX19_prepare rfl ?_
    refine hd_callV pkX19_prepare rfl (q := (KX19_small, yX19_small, 19, 2, 0)) rfl rfl rfl (As := [(0, 14), (1, 1)]) (rest := []) (c := 2514) rfl rfl (Nat.le_of_ble_eq_true rfl) (g.cell 0 rfl).1 (g.cell 0 rfl).2.1 (h_X19_small (by decide) (by decide) (by decide) g) (hd_bV (fun hc3 ps => ?_))
    have ghc3 : Str t19 r19 hc3 := g.only ps.1.1 (by decide)
    have sn := sn.only ps.1.1
    have hO := hO.trans ps.1.1
    have la : LA hc3 0 := ⟨1, nv_small ps, by decide, by decide, Int.one_dvd _⟩
    refine hd_ipush (z := 0) pkX19_prepare rfl ?_
    refine hd_istore pkX19_prepare rfl rfl ?_
    change MW _ _ _ _ _ [(1, (0, 0)), (0, (2, ((2514 : Nat) : Int)))] _ _
    have lp10 : ∀ (N10 : Nat) (c : Int) (hA : MH), Str t19 r19 hA → (Only [2515, 2516] h hA) → (S19 hA cn) → (0 ≤ c ∧ c ≤ cn) → (LA hA c.toNat) → cn - c < (N10 : Int) → MW KX19_prepare Q 0 0 (pcA pgX19_prepare 10) [(0, (2, ((2514 : Nat) : Int))), (1, (0, c))] [] hA := by
      intro N10
      induction N10 with
      | zero => intro c hA g10 hO sn c0 la hm10; exfalso; omega
      | succ N10 ih10 =>
        intro c hA g10 hO sn c0 la hm10
        refine hd_iload pkX19_prepare rfl rfl ?_
        refine hd_aload pkX19_prepare rfl rfl (Int.natCast_nonneg _) ?_
        refine hd_getI pkX19_prepare rfl (g10.cell 0 rfl).1 (g10.cell 0 rfl).2.1 (fun v4 ev4 rv4 => ?_)
        have qv4 : cn = v4 := by rw [ev4]; exact sn.1.1.symm
        subst qv4
        refine hd_ic_ge pkX19_prepare rfl (fun c5 => ?_) (fun c5 => ?_)
        · skip
          have la : LA hA 14 := by
            obtain ⟨L, VL, L0, L1, L2⟩ := la
            have := (p3k_le (i := c.toNat) (j := 14) (by omega)).2
            exact ⟨L, VL, L0, by omega, L2⟩
          refine hd_ipush (z := 0) pkX19_prepare rfl ?_
          refine hd_istore pkX19_prepare rfl rfl ?_
          change MW _ _ _ _ _ [(1, (0, 0)), (0, (2, ((2514 : Nat) : Int)))] _ _
          have lp38 : ∀ (N38 : Nat) (c : Int) (hB : MH), Str t19 r19 hB → (Only [2515, 2516] h hB) → (S19 hB cn) → (0 ≤ c ∧ c ≤ cn) → (LA hB 14) → (∀ i : Int, 0 ≤ i → i < c → Nx hB i 7) → cn - c < (N38 : Int) → MW KX19_prepare Q 0 0 (pcA pgX19_prepare 38) [(0, (2, ((2514 : Nat) : Int))), (1, (0, c))] [] hB := by
            intro N38
            induction N38 with
            | zero => intro c hB g38 hO sn c0 la nx hm38; exfalso; omega
            | succ N38 ih38 =>
              intro c hB g38 hO sn c0 la nx hm38
              refine hd_iload pkX19_prepare rfl rfl ?_
              refine hd_aload pkX19_prepare rfl rfl (Int.natCast_nonneg _) ?_
              refine hd_getI pkX19_prepare rfl (g38.cell 0 rfl).1 (g38.cell 0 rfl).2.1 (fun v6 ev6 rv6 => ?_)
              have qv6 : cn = v6 := by rw [ev6]; exact sn.1.1.symm
              subst qv6
              refine hd_ic_ge pkX19_prepare rfl (fun c7 => ?_) (fun c7 => ?_)
              · skip
                have nx := fun (i : Int) (i0 : 0 ≤ i) (i1 : i < cn) => nx i i0 (by omega)
                refine hd_aload pkX19_prepare rfl rfl (Int.natCast_nonneg _) ?_
                refine hd_ipush (z := 17) pkX19_prepare rfl ?_
                refine hd_lpush (z := 1) pkX19_prepare rfl ?_
                refine hd_callV pkX19_prepare rfl (q := (KX19_small, yX19_small, 19, 2, 0)) rfl rfl rfl (As := [(0, 17), (1, 1)]) (rest := []) (c := 2514) rfl rfl (Nat.le_of_ble_eq_true rfl) (g38.cell 0 rfl).1 (g38.cell 0 rfl).2.1 (h_X19_small (by decide) (by decide) (by decide) g38) (hd_bV (fun hc8 ps => ?_))
                have ghc8 : Str t19 r19 hc8 := g38.only ps.1.1 (by decide)
                have sn := sn.only ps.1.1
                have hO := hO.trans ps.1.1
                have nx := fun (i : Int) (i0 : 0 ≤ i) (i1 : i < cn) => (nx i i0 i1).keep ps.1 i0 (nm1 (by have := sn.1.2.1; omega))
                have la := la.keep ps.1 (by decide)
                have ua : UA hc8 0 := ⟨1, nv_small ps, by decide, by decide, Int.one_dvd _, fun j a b => by omega⟩
                refine hd_ipush (z := 1) pkX19_prepare rfl ?_
                refine hd_istore pkX19_prepare rfl rfl ?_
                change MW _ _ _ _ _ [(1, (0, 1)), (0, (2, ((2514 : Nat) : Int)))] _ _
                have lp69 : ∀ (N69 : Nat) (c : Int) (hC : MH), Str t19 r19 hC → (Only [2515, 2516] h hC) → (S19 hC cn) → (1 ≤ c ∧ (c ≤ cn ∨ c = 1)) → (LA hC 14) → (∀ i : Int, 0 ≤ i → i < cn → Nx hC i 7) → (UA hC (c - 1).toNat) → cn + 1 - c < (N69 : Int) → MW KX19_prepare Q 0 0 (pcA pgX19_prepare 69) [(0, (2, ((2514 : Nat) : Int))), (1, (0, c))] [] hC := by
                  intro N69
                  induction N69 with
                  | zero => intro c hC g69 hO sn c0 la nx ua hm69; exfalso; omega
                  | succ N69 ih69 =>
                    intro c hC g69 hO sn c0 la nx ua hm69
                    refine hd_iload pkX19_prepare rfl rfl ?_
                    refine hd_aload pkX19_prepare rfl rfl (Int.natCast_nonneg _) ?_
                    refine hd_getI pkX19_prepare rfl (g69.cell 0 rfl).1 (g69.cell 0 rfl).2.1 (fun v9 ev9 rv9 => ?_)
                    have qv9 : cn = v9 := by rw [ev9]; exact sn.1.1.symm
                    subst qv9
                    refine hd_ic_ge pkX19_prepare rfl (fun c10 => ?_) (fun c10 => ?_)
                    · skip
                      obtain ⟨U, VU, U0, U1, U2, U3⟩ := ua
                      have U9 : Ud hC cn U := fun j a b => U3 j a (by omega)
                      have UP : (U.natAbs : Int) < PW 5 := by
                        have e := p4h_PW
                        have := (p4h_le (i := (c - 1).toNat) (j := 13) (by have := sn.1.2.1; omega)).2
                        omega
                      refine hd_ipush (z := 0) pkX19_prepare rfl ?_
                      refine hd_istore pkX19_prepare rfl rfl ?_
                      change MW _ _ _ _ _ [(1, (0, 0)), (0, (2, ((2514 : Nat) : Int)))] _ _
                      have lp101 : ∀ (N101 : Nat) (c : Int) (hD : MH), Str t19 r19 hD → (Only [2515, 2516] h hD) → (S19 hD cn) → (0 ≤ c ∧ c ≤ cn) → (LA hD 14) → (Nv 140 2515 2516 hD 17 U) → (∀ i : Int, 0 ≤ i → i < cn → (i < c → Nd hD i 12 U) ∧ (c ≤ i → Nx hD i 7)) → (Ud hD cn U) → cn - c < (N101 : Int) → MW KX19_prepare Q 0 0 (pcA pgX19_prepare 101) [(0, (2, ((2514 : Nat) : Int))), (1, (0, c))] [] hD := by
                        intro N101
                        induction N101 with
                        | zero => intro c hD g101 hO sn c0 la VU nx U8 hm101; exfalso; omega
                        | succ N101 ih101 =>
                          intro c hD g101 hO sn c0 la VU nx U8 hm101
                          refine hd_iload pkX19_prepare rfl rfl ?_
                          refine hd_aload pkX19_prepare rfl rfl (Int.natCast_nonneg _) ?_
                          refine hd_getI pkX19_prepare rfl (g101.cell 0 rfl).1 (g101.cell 0 rfl).2.1 (fun v11 ev11 rv11 => ?_)
                          have qv11 : cn = v11 := by rw [ev11]; exact sn.1.1.symm
                          subst qv11
                          refine hd_ic_ge pkX19_prepare rfl (fun c12 => ?_) (fun c12 => ?_)
                          · skip
                            have nx := fun (i : Int) (i0 : 0 ≤ i) (i1 : i < cn) => (nx i i0 i1).1 (by omega)
                            obtain ⟨L, VL, L0, L1, L2⟩ := la
                            have LP : (L.natAbs : Int) < PW 6 := by
                              have e := p3k_PW
                              omega
                            refine hd_aload pkX19_prepare rfl rfl (Int.natCast_nonneg _) ?_
                            refine hd_ipush (z := 14) pkX19_prepare rfl ?_
                            refine hd_ipush (z := 17) pkX19_prepare rfl ?_
                            refine hd_ipush (z := 21) pkX19_prepare rfl ?_
                            refine hd_callV pkX19_prepare rfl (q := (KX19_product, yX19_product, 19, 3, 0)) rfl rfl rfl (As := [(0, 14), (0, 17), (0, 21)]) (rest := []) (c := 2514) rfl rfl (Nat.le_of_ble_eq_true rfl) (g101.cell 0 rfl).1 (g101.cell 0 rfl).2.1 (h_X19_product (by decide) (by decide) (by decide) (by decide) (by decide) (by decide) (by decide) (by decide) VL.1 VU.1 (nv_szs VL VU LP UP (by decide)) VL.sg VU.sg g101) (hd_bV (fun hc13 pp => ?_))
                            have ghc13 : Str t19 r19 hc13 := g101.only pp.1.1 (by decide)
                            have sn := sn.only pp.1.1
                            have hO := hO.trans pp.1.1
                            have nx := fun (i : Int) (i0 : 0 ≤ i) (i1 : i < cn) => (nx i i0 i1).keep pp.1 i0 (nm1 (by have := sn.1.2.1; omega))
                            have U8 := U8.only pp.1.1 (by decide)
                            have V1 := nv_product VL VU pp
                            refine hd_aload pkX19_prepare rfl rfl (Int.natCast_nonneg _) ?_
                            refine hd_ipush (z := 21) pkX19_prepare rfl ?_
                            refine hd_ipush (z := 14) pkX19_prepare rfl ?_
                            refine hd_callV pkX19_prepare rfl (q := (KX19_copy, yX19_copy, 19, 2, 0)) rfl rfl rfl (As := [(0, 21), (0, 14)]) (rest := []) (c := 2514) rfl rfl (Nat.le_of_ble_eq_true rfl) (ghc13.cell 0 rfl).1 (ghc13.cell 0 rfl).2.1 (h_X19_copy (by decide) (by decide) (by decide) (by decide) V1.1 ghc13) (hd_bV (fun hc14 pc => ?_))
                            have ghc14 : Str t19 r19 hc14 := ghc13.only pc.1.1 (by decide)
                            have sn := sn.only pc.1.1
                            have hO := hO.trans pc.1.1
                            have nx := fun (i : Int) (i0 : 0 ≤ i) (i1 : i < cn) => (nx i i0 i1).keep pc.1 i0 (nm1 (by have := sn.1.2.1; omega))
                            have U8 := U8.only pc.1.1 (by decide)
                            have lo : LO hc14 := ⟨_, nv_copy V1 pc, Int.mul_pos L0 U0, PW_abs L0 U0 (PW_mk rfl LP UP), Int.mul_dvd_mul L2 U2⟩
                            refine hd_aload pkX19_prepare rfl rfl (Int.natCast_nonneg _) ?_
                            refine hd_ipush (z := 1) pkX19_prepare rfl ?_
                            refine hd_putZ pkX19_prepare rfl (ghc14.cell 0 rfl).1 (ghc14.cell 0 rfl).2.1 (by omega) (fun hh15 ehh15 => ?_)
                            have ghh15 : Str t19 r19 hh15 := by rw [ehh15]; exact ghc14.setF rfl
                            have o1 := Only.wr ehh15
                            have f1 : ∀ j : Int, 0 ≤ j → j ≠ 6 → ga hh15 2514 j = ga h 2514 j := fun j a b => ((ga_wr ehh15 (by decide) a).trans (if_neg b)).trans (hO.ga (by decide) j)
                            have v6 : ga hh15 2514 6 = 1 := (ga_wr ehh15 (by decide) (by decide)).trans (if_pos rfl)
                            have hP : Only [2515, 2516, 2514] h hh15 := (hO.mono (by decide)).trans (o1.mono (by decide))
                            have zz : ga hh15 2515 = ga hc14 2515 := funext fun j => o1.ga (by decide) j
                            have ss : ga hh15 2516 = ga hc14 2516 := funext fun j => o1.ga (by decide) j
                            have lo : LO hh15 := by
                              unfold LO Nv at lo ⊢
                              rw [zz, ss]
                              exact lo
                            have nx : CV hh15 cn := ⟨U, U8.only o1 (by decide), fun i a b => by
                              have q := nx i a b
                              unfold Nd Nv at q ⊢
                              rw [zz, ss]
                              exact q⟩
                            refine hd_vret pkX19_prepare rfl ?_
                            subst eQ
                            exact ⟨rfl, hP, f1, by rw [v6]; decide, ⟨lo, nx⟩, fun q => absurd (by
                              have q2 : ga h 2514 ((6 : Nat) : Int) = ga h 2514 6 := rfl
                              omega) q⟩
                          · skip
                            obtain ⟨x, VX, xb⟩ := (nx c (by omega) (by omega)).2 (Int.le_refl _)
                            refine hd_aload pkX19_prepare rfl rfl (Int.natCast_nonneg _) ?_
                            refine hd_iload pkX19_prepare rfl rfl ?_
                            refine hd_ipush (z := 17) pkX19_prepare rfl ?_
                            refine hd_ipush (z := 21) pkX19_prepare rfl ?_
                            have cb := sn.1.2.1
                            refine hd_callV pkX19_prepare rfl (q := (KX19_product, yX19_product, 19, 3, 0)) rfl rfl rfl (As := [(0, c), (0, 17), (0, 21)]) (rest := []) (c := 2514) rfl rfl (Nat.le_of_ble_eq_true rfl) (g101.cell 0 rfl).1 (g101.cell 0 rfl).2.1 (h_X19_product (by omega) (by omega) (by decide) (by decide) (by decide) (by decide) (by omega) (by decide) VX.1 VU.1 (nv_szs VX VU xb UP (by decide)) VX.sg VU.sg g101) (hd_bV (fun hc16 pp => ?_))
                            have ghc16 : Str t19 r19 hc16 := g101.only pp.1.1 (by decide)
                            have sn := sn.only pp.1.1
                            have hO := hO.trans pp.1.1
                            have nx := fun (i : Int) (i0 : 0 ≤ i) (i1 : i < cn) => And.intro (fun w : i < c => ((nx i i0 i1).1 w).keep pp.1 i0 (nm1 (by have := sn.1.2.1; omega))) (fun w : c ≤ i => ((nx i i0 i1).2 w).keep pp.1 i0 (nm1 (by have := sn.1.2.1; omega)))
                            have la := la.keep pp.1 (by decide)
                            have U8 := U8.only pp.1.1 (by decide)
                            have V1 := nv_product VX VU pp
                            have VU := VU.keep (by decide) pp.1 (by decide) (by decide)
                            refine hd_aload pkX19_prepare rfl rfl (Int.natCast_nonneg _) ?_
                            refine hd_ipush (z := 21) pkX19_prepare rfl ?_
                            refine hd_iload pkX19_prepare rfl rfl ?_
                            have cb := sn.1.2.1
                            refine hd_callV pkX19_prepare rfl (q := (KX19_copy, yX19_copy, 19, 2, 0)) rfl rfl rfl (As := [(0, 21), (0, c)]) (rest := []) (c := 2514) rfl rfl (Nat.le_of_ble_eq_true rfl) (ghc16.cell 0 rfl).1 (ghc16.cell 0 rfl).2.1 (h_X19_copy (by decide) (by decide) (by omega) (by omega) V1.1 ghc16) (hd_bV (fun hc17 pc => ?_))
                            have ghc17 : Str t19 r19 hc17 := ghc16.only pc.1.1 (by decide)
                            have sn := sn.only pc.1.1
                            have hO := hO.trans pc.1.1
                            have nC : Nd hc17 c 12 U := ⟨_, nv_copy V1 pc, PW_mk rfl xb UP, Int.dvd_mul_left _ _⟩
                            have nxN : ∀ i : Int, 0 ≤ i → i < cn → (i < c + 1 → Nd hc17 i 12 U) ∧ (c + 1 ≤ i → Nx hc17 i 7) := fun i i0 i1 => by
                              by_cases q : i = c
                              · rw [q]
                                exact ⟨fun _ => nC, fun w => by omega⟩
                              · exact ⟨fun w => ((nx i i0 i1).1 (by omega)).keep pc.1 i0 (nm1 q), fun w => ((nx i i0 i1).2 (by omega)).keep pc.1 i0 (nm1 q)⟩
                            have la := la.keep pc.1 (nm1 (by omega))
                            have U8 := U8.only pc.1.1 (by decide)
                            have VU := VU.keep (by decide) pc.1 (by decide) (nm1 (by omega))
                            refine hd_iinc (z := 1) pkX19_prepare rfl rfl (by omega) rfl ?_
                            change MW _ _ _ _ _ [(1, (0, (c + 1))), (0, (2, ((2514 : Nat) : Int)))] _ _
                            refine hd_goto pkX19_prepare rfl ?_
                            refine m_sub [(0, (2, ((2514 : Nat) : Int))), (1, (0, (c + 1)))] (List.forall_mem_cons.mpr ⟨rfl, List.forall_mem_cons.mpr ⟨rfl, fun _ h => absurd h List.not_mem_nil⟩⟩) ?_
                            refine ih101  ((c + 1)) hc17 ghc17 ?_ ?_ ?_ ?_ ?_ ?_ ?_ ?_
                            · exact hO
                            · exact sn
                            · omega
                            · exact la
                            · exact VU
                            · exact nxN
                            · exact U8
                            · omega
                      refine m_sub [(0, (2, ((2514 : Nat) : Int))), (1, (0, 0))] (List.forall_mem_cons.mpr ⟨rfl, List.forall_mem_cons.mpr ⟨rfl, fun _ h => absurd h List.not_mem_nil⟩⟩) ?_
                      refine lp101 ((cn - (0)) + 1).toNat (0) hC g69 ?_ ?_ ?_ ?_ ?_ ?_ ?_ ?_
                      · exact hO
                      · exact sn
                      · omega
                      · exact la
                      · exact VU
                      · exact fun i i0 i1 => ⟨fun w => by omega, fun _ => nx i i0 i1⟩
                      · exact U9
                      · omega
                    · skip
                      refine hd_aload pkX19_prepare rfl rfl (Int.natCast_nonneg _) ?_
                      refine hd_getR (n := 2517) pkX19_prepare rfl (g69.cell 0 rfl).1 (g69.cell 0 rfl).2.1 (g69.ref 2 rfl) ?_
                      refine hd_iload pkX19_prepare rfl rfl ?_
                      refine hd_iald (n := 14) pkX19_prepare rfl (g69.cell 3 rfl) (by omega) (by omega) (fun v18 ev18 rv18 => ?_)
                      have r76 : 0 ≤ v18 ∧ v18 ≤ 400 := by rw [ev18]; exact (sn.1.2.2.1 c (by omega) (by omega)).1
                      obtain ⟨pa, qv18⟩ : ∃ x : Int, x = v18 := ⟨_, rfl⟩
                      have epa : pa = ga hC 2517 c := qv18.trans ev18
                      subst qv18
                      refine hd_aload pkX19_prepare rfl rfl (Int.natCast_nonneg _) ?_
                      refine hd_getR (n := 2517) pkX19_prepare rfl (g69.cell 0 rfl).1 (g69.cell 0 rfl).2.1 (g69.ref 2 rfl) ?_
                      refine hd_iload pkX19_prepare rfl rfl ?_
                      refine hd_ipush (z := 1) pkX19_prepare rfl ?_
                      refine hd_isub pkX19_prepare rfl (by omega) ?_
                      refine hd_iald (n := 14) pkX19_prepare rfl (g69.cell 3 rfl) (by omega) (by omega) (fun v19 ev19 rv19 => ?_)
                      have r82 : 0 ≤ v19 ∧ v19 ≤ 400 := by rw [ev19]; exact (sn.1.2.2.1 (c - 1) (by omega) (by omega)).1
                      have r83 : v19 < pa := by rw [ev19, epa]; exact sn.1.2.2.2 (c - 1) c (by omega) (by omega) (by omega)
                      obtain ⟨pb, qv19⟩ : ∃ x : Int, x = v19 := ⟨_, rfl⟩
                      have epb : pb = ga hC 2517 (c - 1) := qv19.trans ev19
                      subst qv19
                      refine hd_isub pkX19_prepare rfl (by omega) ?_
                      generalize eln : (pa - pb) = ln
                      have lb9 : 1 ≤ ln ∧ ln ≤ 400 := by omega
                      refine hd_i2l pkX19_prepare rfl ?_
                      refine hd_lstore pkX19_prepare rfl rfl ?_
                      change MW _ _ _ _ _ [(2, (1, ln)), (0, (2, ((2514 : Nat) : Int))), (1, (0, c))] _ _
                      obtain ⟨U, VU, U0, U1, U2, U3⟩ := ua
                      have vU : vl (ga hC 2515) 140 17 = U := VU.2.1.trans (by omega)
                      refine hd_aload pkX19_prepare rfl rfl (Int.natCast_nonneg _) ?_
                      refine hd_ipush (z := 17) pkX19_prepare rfl ?_
                      refine hd_lload pkX19_prepare rfl rfl ?_
                      refine hd_lload pkX19_prepare rfl rfl ?_
                      refine hd_aload pkX19_prepare rfl rfl (Int.natCast_nonneg _) ?_
                      refine hd_ipush (z := 17) pkX19_prepare rfl ?_
                      refine hd_lload pkX19_prepare rfl rfl ?_
                      refine hd_callV pkX19_prepare rfl (q := (KX19_rest, yX19_rest, 19, 2, 0)) rfl rfl rfl (As := [(0, 17), (1, ln)]) (rest := [(1, ln), (1, ln), (0, 17), (2, ((2514 : Nat) : Int))]) (c := 2514) rfl rfl (Nat.le_of_ble_eq_true rfl) (g69.cell 0 rfl).1 (g69.cell 0 rfl).2.1 (h_X19_rest (by decide) (by decide) lb9.1 (by omega) VU.1 g69) (hd_bL (fun rs hc20 pr => ?_))
                      obtain ⟨pr, ehc20⟩ := pr
                      replace ehc20 := ehc20.symm
                      subst ehc20
                      rw [vU] at pr
                      refine hd_callS pkX19_prepare rfl (q := (KX19_common, yX19_common, 19, 2, 1)) rfl rfl rfl (As := [(1, ln), (1, rs)]) (rest := [(1, ln), (0, 17), (2, ((2514 : Nat) : Int))]) rfl rfl (Nat.le_of_ble_eq_true rfl) rfl (h_X19_common (by omega) (by rw [pr]; exact Int.emod_nonneg _ (by omega)) g69) (hd_bL (fun gd hc21 pg => ?_))
                      obtain ⟨pg, ehc21⟩ := pg
                      replace ehc21 := ehc21.symm
                      subst ehc21
                      rw [pr] at pg
                      have g0 : 0 < gd := by rw [pg]; exact gi_pos (by omega) _
                      have gb : gd ∣ ln := by rw [pg]; exact gi_dl _ _
                      have sl := step_le U0 U1 (show 0 < ln by omega) lb9.2 g0 gb
                      have td : Int.tdiv ln gd = ln / gd := Int.tdiv_eq_ediv_of_nonneg (by omega)
                      refine hd_ldiv pkX19_prepare rfl (by omega) (by rw [td]; omega) ?_
                      generalize efq : (Int.tdiv ln gd) = fq
                      rw [td] at efq
                      have fb : 1 ≤ fq ∧ fq ≤ 400 := by omega
                      refine hd_callV pkX19_prepare rfl (q := (KX19_times, yX19_times, 19, 2, 0)) rfl rfl rfl (As := [(0, 17), (1, fq)]) (rest := []) (c := 2514) rfl rfl (Nat.le_of_ble_eq_true rfl) (g69.cell 0 rfl).1 (g69.cell 0 rfl).2.1 (h_X19_times (m := 5) (n := 1) (by decide) (by decide) (by decide) (by decide) VU (by omega) (by have := p4h_le (i := (c - 1).toNat) (j := 13) (by omega); have e := p4h_PW; omega) (pw1 ⟨by omega, by omega⟩) (by decide) g69) (hd_bV (fun hc22 pt => ?_))
                      have ghc22 : Str t19 r19 hc22 := g69.only pt.1.1 (by decide)
                      have sn := sn.only pt.1.1
                      have hO := hO.trans pt.1.1
                      have nx := fun (i : Int) (i0 : 0 ≤ i) (i1 : i < cn) => (nx i i0 i1).keep pt.1 i0 (nmc (by have := sn.1.2.1; omega) (nmc (by have := sn.1.2.1; omega) (nm1 (by have := sn.1.2.1; omega))))
                      have la := la.keep pt.1 (by decide)
                      have ua : UA hc22 (c + 1 - 1).toNat := by
                        rw [show (c + 1 - 1).toNat = (c - 1).toNat + 1 by omega]
                        refine ⟨_, pt.2, ?_, ?_, ?_, ?_⟩
                        · rw [← efq]
                          exact sl.1
                        · rw [← efq]
                          exact sl.2.1
                        · rw [← efq, pg]
                          exact lcm_step U0 (by omega) U2 (KB_all lb9)
                        · have u3 := U3.only pt.1.1 (by decide)
                          rw [show (((c - 1).toNat : Nat) : Int) + 1 = c by omega] at u3
                          rw [show (((c - 1).toNat + 1 : Nat) : Int) + 1 = c + 1 by omega]
                          refine u3.step (Int.dvd_mul_right _ _) ?_
                          rw [pt.1.1.ga (d := 2517) (by decide), pt.1.1.ga (d := 2517) (by decide), ← epa, ← epb, eln, ← efq, pg]
                          exact lcm_self U0 (by omega)
                      refine hd_iinc (z := 1) pkX19_prepare rfl rfl (by omega) rfl ?_
                      change MW _ _ _ _ _ [(1, (0, (c + 1))), (2, (1, ln)), (0, (2, ((2514 : Nat) : Int)))] _ _
                      refine hd_goto pkX19_prepare rfl ?_
                      refine m_sub [(0, (2, ((2514 : Nat) : Int))), (1, (0, (c + 1)))] (List.forall_mem_cons.mpr ⟨rfl, List.forall_mem_cons.mpr ⟨rfl, fun _ h => absurd h List.not_mem_nil⟩⟩) ?_
                      refine ih69  ((c + 1)) hc22 ghc22 ?_ ?_ ?_ ?_ ?_ ?_ ?_
                      · exact hO
                      · exact sn
                      · omega
                      · exact la
                      · exact nx
                      · exact ua
                      · omega
                refine m_sub [(0, (2, ((2514 : Nat) : Int))), (1, (0, 1))] (List.forall_mem_cons.mpr ⟨rfl, List.forall_mem_cons.mpr ⟨rfl, fun _ h => absurd h List.not_mem_nil⟩⟩) ?_
                refine lp69 ((cn + 1 - (1)) + 1).toNat (1) hc8 ghc8 ?_ ?_ ?_ ?_ ?_ ?_ ?_
                · exact hO
                · exact sn
                · omega
                · exact la
                · exact nx
                · exact ua
                · omega
              · skip
                obtain ⟨bw, hbw⟩ : ∃ x : Int, x = ga hB 2519 c := ⟨_, rfl⟩
                have bwb : 1 ≤ bw ∧ bw ≤ 1000 := by rw [hbw]; exact (sn.1.2.2.1 c (by omega) (by omega)).2.2
                obtain ⟨L, VL, L0, L1, L2⟩ := la
                have la : LA hB 14 := ⟨L, VL, L0, L1, L2⟩
                have LP : (L.natAbs : Int) < PW 6 := by
                  have e := p3k_PW
                  omega
                refine hd_aload pkX19_prepare rfl rfl (Int.natCast_nonneg _) ?_
                refine hd_ipush (z := 14) pkX19_prepare rfl ?_
                refine hd_iload pkX19_prepare rfl rfl ?_
                refine hd_callV pkX19_prepare rfl (q := (KX19_copy, yX19_copy, 19, 2, 0)) rfl rfl rfl (As := [(0, 14), (0, c)]) (rest := []) (c := 2514) rfl rfl (Nat.le_of_ble_eq_true rfl) (g38.cell 0 rfl).1 (g38.cell 0 rfl).2.1 (h_X19_copy (by decide) (by decide) (by omega) (by omega) VL.1 g38) (hd_bV (fun hc23 pc => ?_))
                have ghc23 : Str t19 r19 hc23 := g38.only pc.1.1 (by decide)
                have sn := sn.only pc.1.1
                have hO := hO.trans pc.1.1
                have nx := fun (i : Int) (i0 : 0 ≤ i) (i1 : i < c) => (nx i i0 i1).keep pc.1 i0 (nm1 (by omega))
                have la := la.keep pc.1 (nm1 (by omega))
                have VC := nv_copy VL pc
                refine hd_aload pkX19_prepare rfl rfl (Int.natCast_nonneg _) ?_
                refine hd_iload pkX19_prepare rfl rfl ?_
                refine hd_aload pkX19_prepare rfl rfl (Int.natCast_nonneg _) ?_
                refine hd_getR (n := 2519) pkX19_prepare rfl (ghc23.cell 0 rfl).1 (ghc23.cell 0 rfl).2.1 (ghc23.ref 4 rfl) ?_
                refine hd_iload pkX19_prepare rfl rfl ?_
                refine hd_lald (n := 14) pkX19_prepare rfl (ghc23.cell 5 rfl) (by omega) (by omega) (fun v24 ev24 rv24 => ?_)
                have bd : 1 ≤ v24 ∧ v24 ≤ 1000 := by rw [ev24]; exact (sn.1.2.2.1 c (by omega) (by omega)).2.2
                refine hd_callV pkX19_prepare rfl (q := (KX19_divide, yX19_divide, 19, 2, 0)) rfl rfl rfl (As := [(0, c), (1, v24)]) (rest := []) (c := 2514) rfl rfl (Nat.le_of_ble_eq_true rfl) (ghc23.cell 0 rfl).1 (ghc23.cell 0 rfl).2.1 (h_X19_divide (by omega) (by omega) bd.1 (by omega) VC.1 ghc23) (hd_bL (fun lf hc25 pd => ?_))
                have ghc25 : Str t19 r19 hc25 := ghc23.only pd.1.1 (by decide)
                have sn := sn.only pd.1.1
                have hO := hO.trans pd.1.1
                have nx := fun (i : Int) (i0 : 0 ≤ i) (i1 : i < c) => (nx i i0 i1).keep pd.1 i0 (nm1 (by omega))
                have la := la.keep pd.1 (nm1 (by omega))
                obtain ⟨y, VC, yb, y0⟩ := nv_divide VC bd.1 pd.2.1 pd.2.2.1 pd.2.2.2.1 pd.2.2.2.2.2
                refine hd_lstore pkX19_prepare rfl rfl ?_
                change MW _ _ _ _ _ [(2, (1, lf)), (0, (2, ((2514 : Nat) : Int))), (1, (0, c))] _ _
                refine hd_aload pkX19_prepare rfl rfl (Int.natCast_nonneg _) ?_
                refine hd_iload pkX19_prepare rfl rfl ?_
                refine hd_aload pkX19_prepare rfl rfl (Int.natCast_nonneg _) ?_
                refine hd_getR (n := 2518) pkX19_prepare rfl (ghc25.cell 0 rfl).1 (ghc25.cell 0 rfl).2.1 (ghc25.ref 3 rfl) ?_
                refine hd_iload pkX19_prepare rfl rfl ?_
                refine hd_lald (n := 14) pkX19_prepare rfl (ghc25.cell 4 rfl) (by omega) (by omega) (fun v26 ev26 rv26 => ?_)
                have ad : -1000000 ≤ v26 ∧ v26 ≤ 1000000 := by rw [ev26]; exact (sn.1.2.2.1 c (by omega) (by omega)).2.1
                have yP : (y.natAbs : Int) < PW 6 := by omega
                refine hd_callV pkX19_prepare rfl (q := (KX19_times, yX19_times, 19, 2, 0)) rfl rfl rfl (As := [(0, c), (1, v26)]) (rest := []) (c := 2514) rfl rfl (Nat.le_of_ble_eq_true rfl) (ghc25.cell 0 rfl).1 (ghc25.cell 0 rfl).2.1 (h_X19_times (m := 6) (n := 1) (by omega) (by omega) (by omega) (by omega) VC (by omega) (by omega) (pw1 ⟨by omega, by omega⟩) (by decide) ghc25) (hd_bV (fun hc27 pt => ?_))
                have ghc27 : Str t19 r19 hc27 := ghc25.only pt.1.1 (by decide)
                have sn := sn.only pt.1.1
                have hO := hO.trans pt.1.1
                have nx := fun (i : Int) (i0 : 0 ≤ i) (i1 : i < c) => (nx i i0 i1).keep pt.1 i0 (nmc (by omega) (nmc (by omega) (nm1 (by omega))))
                have la := la.keep pt.1 (nmc (by omega) (nmc (by decide) (nm1 (by decide))))
                have nC : Nx hc27 c 7 := ⟨_, pt.2, PW_mk rfl yP (pw1 ⟨by omega, by omega⟩)⟩
                refine hd_iinc (z := 1) pkX19_prepare rfl rfl (by omega) rfl ?_
                change MW _ _ _ _ _ [(1, (0, (c + 1))), (2, (1, lf)), (0, (2, ((2514 : Nat) : Int)))] _ _
                refine hd_goto pkX19_prepare rfl ?_
                refine m_sub [(0, (2, ((2514 : Nat) : Int))), (1, (0, (c + 1)))] (List.forall_mem_cons.mpr ⟨rfl, List.forall_mem_cons.mpr ⟨rfl, fun _ h => absurd h List.not_mem_nil⟩⟩) ?_
                refine ih38  ((c + 1)) hc27 ghc27 ?_ ?_ ?_ ?_ ?_ ?_
                · exact hO
                · exact sn
                · omega
                · exact la
                · intro i i0 i1
                  by_cases q : i = c
                  · rw [q]
                    exact nC
                  · exact nx i i0 (by omega)
                · omega
          refine m_sub [(0, (2, ((2514 : Nat) : Int))), (1, (0, 0))] (List.forall_mem_cons.mpr ⟨rfl, List.forall_mem_cons.mpr ⟨rfl, fun _ h => absurd h List.not_mem_nil⟩⟩) ?_
          refine lp38 ((cn - (0)) + 1).toNat (0) hA g10 ?_ ?_ ?_ ?_ ?_ ?_
          · exact hO
          · exact sn
          · omega
          · exact la
          · intro i i0 i1
            omega
          · omega
        · skip
          obtain ⟨bw, hbw⟩ : ∃ x : Int, x = ga hA 2519 c := ⟨_, rfl⟩
          have bwb : 1 ≤ bw ∧ bw ≤ 1000 := by rw [hbw]; exact (sn.1.2.2.1 c (by omega) (by omega)).2.2
          obtain ⟨L, VL, L0, L1, L2⟩ := la
          have vL : vl (ga hA 2515) 140 14 = L := VL.2.1.trans (by omega)
          refine hd_aload pkX19_prepare rfl rfl (Int.natCast_nonneg _) ?_
          refine hd_ipush (z := 14) pkX19_prepare rfl ?_
          refine hd_aload pkX19_prepare rfl rfl (Int.natCast_nonneg _) ?_
          refine hd_getR (n := 2519) pkX19_prepare rfl (g10.cell 0 rfl).1 (g10.cell 0 rfl).2.1 (g10.ref 4 rfl) ?_
          refine hd_iload pkX19_prepare rfl rfl ?_
          refine hd_lald (n := 14) pkX19_prepare rfl (g10.cell 5 rfl) (by omega) (by omega) (fun v28 ev28 rv28 => ?_)
          have qv28 : bw = v28 := by rw [ev28, hbw]
          subst qv28
          refine hd_aload pkX19_prepare rfl rfl (Int.natCast_nonneg _) ?_
          refine hd_getR (n := 2519) pkX19_prepare rfl (g10.cell 0 rfl).1 (g10.cell 0 rfl).2.1 (g10.ref 4 rfl) ?_
          refine hd_iload pkX19_prepare rfl rfl ?_
          refine hd_lald (n := 14) pkX19_prepare rfl (g10.cell 5 rfl) (by omega) (by omega) (fun v29 ev29 rv29 => ?_)
          have qv29 : bw = v29 := by rw [ev29, hbw]
          subst qv29
          refine hd_aload pkX19_prepare rfl rfl (Int.natCast_nonneg _) ?_
          refine hd_ipush (z := 14) pkX19_prepare rfl ?_
          refine hd_aload pkX19_prepare rfl rfl (Int.natCast_nonneg _) ?_
          refine hd_getR (n := 2519) pkX19_prepare rfl (g10.cell 0 rfl).1 (g10.cell 0 rfl).2.1 (g10.ref 4 rfl) ?_
          refine hd_iload pkX19_prepare rfl rfl ?_
          refine hd_lald (n := 14) pkX19_prepare rfl (g10.cell 5 rfl) (by omega) (by omega) (fun v30 ev30 rv30 => ?_)
          have qv30 : bw = v30 := by rw [ev30, hbw]
          subst qv30
          refine hd_callV pkX19_prepare rfl (q := (KX19_rest, yX19_rest, 19, 2, 0)) rfl rfl rfl (As := [(0, 14), (1, bw)]) (rest := [(1, bw), (1, bw), (0, 14), (2, ((2514 : Nat) : Int))]) (c := 2514) rfl rfl (Nat.le_of_ble_eq_true rfl) (g10.cell 0 rfl).1 (g10.cell 0 rfl).2.1 (h_X19_rest (by decide) (by decide) bwb.1 (by omega) VL.1 g10) (hd_bL (fun rs hc31 pr => ?_))
          obtain ⟨pr, ehc31⟩ := pr
          replace ehc31 := ehc31.symm
          subst ehc31
          rw [vL] at pr
          refine hd_callS pkX19_prepare rfl (q := (KX19_common, yX19_common, 19, 2, 1)) rfl rfl rfl (As := [(1, bw), (1, rs)]) (rest := [(1, bw), (0, 14), (2, ((2514 : Nat) : Int))]) rfl rfl (Nat.le_of_ble_eq_true rfl) rfl (h_X19_common (by omega) (by rw [pr]; exact Int.emod_nonneg _ (by omega)) g10) (hd_bL (fun gd hc32 pg => ?_))
          obtain ⟨pg, ehc32⟩ := pg
          replace ehc32 := ehc32.symm
          subst ehc32
          rw [pr] at pg
          have g0 : 0 < gd := by rw [pg]; exact gi_pos (by omega) _
          have gb : gd ∣ bw := by rw [pg]; exact gi_dl _ _
          have sl := step_le L0 L1 (show 0 < bw by omega) bwb.2 g0 gb
          have td : Int.tdiv bw gd = bw / gd := Int.tdiv_eq_ediv_of_nonneg (by omega)
          refine hd_ldiv pkX19_prepare rfl (by omega) (by rw [td]; omega) ?_
          generalize efq : (Int.tdiv bw gd) = fq
          rw [td] at efq
          have fb : 1 ≤ fq ∧ fq ≤ 1000 := by omega
          refine hd_callV pkX19_prepare rfl (q := (KX19_times, yX19_times, 19, 2, 0)) rfl rfl rfl (As := [(0, 14), (1, fq)]) (rest := []) (c := 2514) rfl rfl (Nat.le_of_ble_eq_true rfl) (g10.cell 0 rfl).1 (g10.cell 0 rfl).2.1 (h_X19_times (m := 6) (n := 1) (by decide) (by decide) (by decide) (by decide) VL (by omega) (by have := p3k_le (i := c.toNat) (j := 14) (by omega); have e := p3k_PW; omega) (pw1 ⟨by omega, by omega⟩) (by decide) g10) (hd_bV (fun hc33 pt => ?_))
          have ghc33 : Str t19 r19 hc33 := g10.only pt.1.1 (by decide)
          have sn := sn.only pt.1.1
          have hO := hO.trans pt.1.1
          have la : LA hc33 (c + 1).toNat := by
            rw [show (c + 1).toNat = c.toNat + 1 by omega]
            refine ⟨_, pt.2, ?_, ?_, ?_⟩
            · rw [← efq]
              exact sl.1
            · rw [← efq]
              exact sl.2.1
            · rw [← efq, pg]
              exact lcm_step L0 (by omega) L2 (KA_all bwb)
          refine hd_iinc (z := 1) pkX19_prepare rfl rfl (by omega) rfl ?_
          change MW _ _ _ _ _ [(1, (0, (c + 1))), (0, (2, ((2514 : Nat) : Int)))] _ _
          refine hd_goto pkX19_prepare rfl ?_
          refine m_sub [(0, (2, ((2514 : Nat) : Int))), (1, (0, (c + 1)))] (List.forall_mem_cons.mpr ⟨rfl, List.forall_mem_cons.mpr ⟨rfl, fun _ h => absurd h List.not_mem_nil⟩⟩) ?_
          refine ih10  ((c + 1)) hc33 ghc33 ?_ ?_ ?_ ?_ ?_
          · exact hO
          · exact sn
          · omega
          · exact la
          · omega
    refine m_sub [(0, (2, ((2514 : Nat) : Int))), (1, (0, 0))] (List.forall_mem_cons.mpr ⟨rfl, List.forall_mem_cons.mpr ⟨rfl, fun _ h => absurd h List.not_mem_nil⟩⟩) ?_
    refine lp10 ((cn - (0)) + 1).toNat (0) hc3 ghc3 ?_ ?_ ?_ ?_ ?_
    · exact hO
    · exact sn
    · omega
    · exact la
    · omega
  · skip
    refine hd_vret pkX19_prepare rfl ?_
    subst eQ
    exact ⟨rfl, Only.refl _ _, fun _ _ _ => rfl, by
      intro q
      have q2 : ga h 2514 ((6 : Nat) : Int) = 0 := q
      omega, q9.1 (by
      intro q
      have q2 : ga h 2514 ((6 : Nat) : Int) = 0 := q
      omega), fun _ => rfl⟩
