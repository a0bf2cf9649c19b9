set_option maxRecDepth 20000 in
set_option maxHeartbeats 8000000 in
theorem h_X14_area {h : MH} {row sign part M : Int} (j4 : J4 h M) (r8 : R8 h M) (g : Str t14 r14 h) : MCal KX14_area yX14_area 0 0 [(2, ((2495 : Nat) : Int)), (0, row), (0, sign), (0, part)] h (mRL fun v h' => Rk h h' M) := by
  refine MCal.ofMW (Or.inl rfl) ⟨cp_X14, rfl⟩ (Nat.le_of_ble_eq_true rfl) ?_
  generalize eQ : (mRL fun v h' => Rk h h' M : MO → MH → Prop) = Q
  change MW KX14_area Q 0 0 (pcA pgX14_area 0) [(0, (2, ((2495 : Nat) : Int))), (1, (0, row)), (2, (0, sign)), (3, (0, part))] [] h
  refine hd_locI (i := 1) rfl (fun rrow => ?_)
  refine hd_locI (i := 2) rfl (fun rsign => ?_)
  refine hd_locI (i := 3) rfl (fun rpart => ?_)
  have hM := j4.1.1
  refine hd_aload pkX14_area rfl rfl (Int.natCast_nonneg _) ?_
  refine hd_ipush (z := 0) pkX14_area rfl ?_
  refine hd_putI pkX14_area rfl (g.cell 0 rfl).1 (g.cell 0 rfl).2.1 (fun hh1 ehh1 => ?_)
  have ghh1 : Str t14 r14 hh1 := by rw [ehh1]; exact g.setF rfl
  have rk := Rk.fault j4 ehh1
  have cut16 : ∀ (_ : True) (hj16 : MH), Str t14 r14 hj16 → (Rk h hj16 M) → MW KX14_area Q 0 0 (pcA pgX14_area 16) [(0, (2, ((2495 : Nat) : Int))), (1, (0, row)), (2, (0, sign)), (3, (0, part))] [] hj16 := by
    intro _ hj16 gc16 rk
    refine hd_iload pkX14_area rfl rfl ?_
    refine hd_callS pkX14_area rfl (q := (KX14_none, yX14_none, 14, 1, 1)) rfl rfl rfl (As := [(0, part)]) (rest := []) rfl rfl (Nat.le_of_ble_eq_true rfl) rfl (h_X14_none gc16) (hd_bL (fun no hc2 po => ?_))
    obtain ⟨po, ehc2⟩ := po
    replace ehc2 := ehc2.symm
    subst ehc2
    refine hd_lret pkX14_area rfl ?_
    subst eQ
    exact ⟨rfl, rfl, rk⟩
  refine hd_iload pkX14_area rfl rfl ?_
  have cut9 : ∀ (_ : True), (sign = 1 ∨ sign = -1) → MW KX14_area Q 0 0 (pcA pgX14_area 9) [(0, (2, ((2495 : Nat) : Int))), (1, (0, row)), (2, (0, sign)), (3, (0, part))] [] hh1 := by
    intro _ hs
    refine hd_iload pkX14_area rfl rfl ?_
    refine hd_ipush (z := (-1)) pkX14_area rfl ?_
    refine hd_ic_lt pkX14_area rfl (fun c3 => ?_) (fun c3 => ?_)
    · skip
      refine cut16 trivial hh1 ghh1 ?_
      · exact rk
    · skip
      refine hd_aload pkX14_area rfl rfl (Int.natCast_nonneg _) ?_
      refine hd_iload pkX14_area rfl rfl ?_
      refine hd_callV pkX14_area rfl (q := (KX14_noRow, yX14_noRow, 14, 1, 0)) rfl rfl rfl (As := [(0, row)]) (rest := []) (c := 2495) rfl rfl (Nat.le_of_ble_eq_true rfl) (ghh1.cell 0 rfl).1 (ghh1.cell 0 rfl).2.1 (h_X14_noRow rk.j (rk.r8 r8) ghh1) (hd_bI (fun nr hc4 pn => ?_))
      have ghc4 : Str t14 r14 hc4 := ghh1.rk pn.2.1
      have r12 := rk.2.1 12 (by decide) (by decide) (by decide) (by decide) (by decide)
      have rk := rk.trans pn.2.1
      have nv := pn.1
      have nf := pn.2.2
      refine hd_if_eq pkX14_area rfl (fun c5 => ?_) (fun c5 => ?_)
      · skip
        refine hd_aload pkX14_area rfl rfl (Int.natCast_nonneg _) ?_
        refine hd_ipush (z := 685) pkX14_area rfl ?_
        refine hd_lpush (z := 0) pkX14_area rfl ?_
        obtain ⟨rb, n16, sv, fe⟩ := nf (by omega)
        obtain ⟨E0, T, D, bv⟩ := BV.of rk.j.1 (rk.r8 r8) rb.1 (by have q := rk.2.1 12 (by decide) (by decide) (by decide) (by decide) (by decide); omega) sv fe
        refine hd_callV pkX14_area rfl (q := (KX14_small, yX14_small, 14, 2, 0)) rfl rfl rfl (As := [(0, 685), (1, 0)]) (rest := []) (c := 2495) rfl rfl (Nat.le_of_ble_eq_true rfl) (ghc4.cell 0 rfl).1 (ghc4.cell 0 rfl).2.1 (h_X14_small (by decide) (by decide) (by decide) ghc4) (hd_bV (fun hc6 ps => ?_))
        have ghc6 : Str t14 r14 hc6 := ghc4.only ps.1.1 (by decide)
        have rk := rk.trans (Rk.ch rk.j ps.1 (by decide))
        have bv := bv.ch ps.1 (by decide)
        have nA := nv_small ps
        refine hd_aload pkX14_area rfl rfl (Int.natCast_nonneg _) ?_
        refine hd_ipush (z := 686) pkX14_area rfl ?_
        refine hd_lpush (z := 1) pkX14_area rfl ?_
        refine hd_callV pkX14_area rfl (q := (KX14_small, yX14_small, 14, 2, 0)) rfl rfl rfl (As := [(0, 686), (1, 1)]) (rest := []) (c := 2495) rfl rfl (Nat.le_of_ble_eq_true rfl) (ghc6.cell 0 rfl).1 (ghc6.cell 0 rfl).2.1 (h_X14_small (by decide) (by decide) (by decide) ghc6) (hd_bV (fun hc7 ps => ?_))
        have ghc7 : Str t14 r14 hc7 := ghc6.only ps.1.1 (by decide)
        have rk := rk.trans (Rk.ch rk.j ps.1 (by decide))
        have bv := bv.ch ps.1 (by decide)
        have nA := nA.keep (by decide) ps.1 (by decide) (nm1 (by decide))
        have VR : Hr 70 2496 2497 hc7 685 686 0 := ⟨nA, nv_small ps, by decide⟩
        refine hd_ipush (z := 0) pkX14_area rfl ?_
        refine hd_istore pkX14_area rfl rfl ?_
        change MW _ _ _ _ _ [(4, (0, 0)), (0, (2, ((2495 : Nat) : Int))), (1, (0, row)), (2, (0, sign)), (3, (0, part))] _ _
        have lp29 : ∀ (N29 : Nat) (k : Int) (hk9 : MH), Str t14 r14 hk9 → (Rk h hk9 M) → (BV hk9 M row E0 T D) → (0 ≤ k ∧ k ≤ M) → (∃ r : Rat, Hr 70 2496 2497 hk9 685 686 r ∧ Ar9 (fF E0 D) (4 * k.toNat) r) → M - k < (N29 : Int) → MW KX14_area Q 0 0 (pcA pgX14_area 29) [(0, (2, ((2495 : Nat) : Int))), (1, (0, row)), (2, (0, sign)), (3, (0, part)), (4, (0, k))] [] hk9 := by
          intro N29
          induction N29 with
          | zero => intro k hk9 g29 rk bv k0 vr hm29; exfalso; omega
          | succ N29 ih29 =>
            intro k hk9 g29 rk bv k0 vr hm29
            obtain ⟨r, VR, ar⟩ := vr
            refine hd_iload pkX14_area rfl rfl ?_
            refine hd_aload pkX14_area rfl rfl (Int.natCast_nonneg _) ?_
            refine hd_getI pkX14_area rfl (g29.cell 0 rfl).1 (g29.cell 0 rfl).2.1 (fun v8 ev8 rv8 => ?_)
            have qv8 : M = v8 := by rw [ev8]; exact rk.j.1.2.1.symm
            subst qv8
            refine hd_ic_ge pkX14_area rfl (fun c9 => ?_) (fun c9 => ?_)
            · skip
              refine hd_aload pkX14_area rfl rfl (Int.natCast_nonneg _) ?_
              refine hd_ipush (z := 685) pkX14_area rfl ?_
              refine hd_ipush (z := 686) pkX14_area rfl ?_
              refine hd_iload pkX14_area rfl rfl ?_
              refine hd_callV pkX14_area rfl (q := (KX14_told, yX14_told, 14, 3, 0)) rfl rfl rfl (As := [(0, 685), (0, 686), (0, part)]) (rest := []) (c := 2495) rfl rfl (Nat.le_of_ble_eq_true rfl) (g29.cell 0 rfl).1 (g29.cell 0 rfl).2.1 (h_X14_told (by decide) (by decide) (by decide) (by decide) VR.1.1 VR.1.2.1 VR.2.1.1 VR.2.1.2.1 g29) (hd_bL (fun tv hc10 pt => ?_))
              have rk := rk.trans (Rk.ch rk.j pt.1 (by decide))
              refine hd_lret pkX14_area rfl ?_
              subst eQ
              exact ⟨rfl, rfl, rk⟩
            · skip
              refine hd_ipush (z := 0) pkX14_area rfl ?_
              refine hd_istore pkX14_area rfl rfl ?_
              change MW _ _ _ _ _ [(5, (0, 0)), (0, (2, ((2495 : Nat) : Int))), (1, (0, row)), (2, (0, sign)), (3, (0, part)), (4, (0, k))] _ _
              have lp35 : ∀ (N35 : Nat) (q : Int) (hq9 : MH), Str t14 r14 hq9 → (Rk h hq9 M) → (BV hq9 M row E0 T D) → (0 ≤ q ∧ q ≤ 5) → (∃ r : Rat, Hr 70 2496 2497 hq9 685 686 r ∧ Ar9 (fF E0 D) (4 * k.toNat + (q - 1).toNat) r) → (0 < q → ∃ a : Rat, Hr 70 2496 2497 hq9 683 684 a ∧ Vf (fF E0 D) Vm a) → (5 : Int) - q < (N35 : Int) → MW KX14_area Q 0 0 (pcA pgX14_area 35) [(0, (2, ((2495 : Nat) : Int))), (1, (0, row)), (2, (0, sign)), (3, (0, part)), (4, (0, k)), (5, (0, q))] [] hq9 := by
                intro N35
                induction N35 with
                | zero => intro q hq9 g35 rk bv q0 vr la hm35; exfalso; omega
                | succ N35 ih35 =>
                  intro q hq9 g35 rk bv q0 vr la hm35
                  obtain ⟨r, VR, ar⟩ := vr
                  refine hd_iload pkX14_area rfl rfl ?_
                  refine hd_ipush (z := 5) pkX14_area rfl ?_
                  refine hd_ic_ge pkX14_area rfl (fun c11 => ?_) (fun c11 => ?_)
                  · skip
                    refine hd_iinc (z := 1) pkX14_area rfl rfl (by omega) rfl ?_
                    change MW _ _ _ _ _ [(4, (0, (k + 1))), (0, (2, ((2495 : Nat) : Int))), (1, (0, row)), (2, (0, sign)), (3, (0, part)), (5, (0, q))] _ _
                    refine hd_goto pkX14_area rfl ?_
                    refine m_sub [(0, (2, ((2495 : Nat) : Int))), (1, (0, row)), (2, (0, sign)), (3, (0, part)), (4, (0, (k + 1)))] (List.forall_mem_cons.mpr ⟨rfl, List.forall_mem_cons.mpr ⟨rfl, List.forall_mem_cons.mpr ⟨rfl, List.forall_mem_cons.mpr ⟨rfl, List.forall_mem_cons.mpr ⟨rfl, fun _ h => absurd h List.not_mem_nil⟩⟩⟩⟩⟩) ?_
                    refine ih29  ((k + 1)) hq9 g35 ?_ ?_ ?_ ?_ ?_
                    · exact rk
                    · exact bv
                    · omega
                    · exact ⟨r, VR, by rw [show 4 * (k + 1).toNat = 4 * k.toNat + (q - 1).toNat by omega]; exact ar⟩
                    · omega
                  · skip
                    refine hd_aload pkX14_area rfl rfl (Int.natCast_nonneg _) ?_
                    refine hd_iload pkX14_area rfl rfl ?_
                    refine hd_iload pkX14_area rfl rfl ?_
                    refine hd_iload pkX14_area rfl rfl ?_
                    refine hd_callV pkX14_area rfl (q := (KX14_value, yX14_value, 14, 3, 0)) rfl rfl rfl (As := [(0, row), (0, k), (0, q)]) (rest := []) (c := 2495) rfl rfl (Nat.le_of_ble_eq_true rfl) (g35.cell 0 rfl).1 (g35.cell 0 rfl).2.1 (h_X14_value ⟨by omega, by omega⟩ ⟨by omega, by omega⟩ bv.1.1.1 bv.1.1.2 bv.1.2.1 bv.1.2.2.1 bv.2.1 rfl rfl rfl bv.2.2.1.1 bv.2.2.1.2.1 bv.2.2.1.2.2.1 bv.2.2.1.2.2.2 bv.2.2.2.1.1 bv.2.2.2.1.2.1 bv.2.2.2.1.2.2 bv.2.2.2.2.1 bv.2.2.2.2.2.1 bv.2.2.2.2.2.2 g35) (hd_bV (fun hc12 pv => ?_))
                    have ghc12 : Str t14 r14 hc12 := g35.only pv.1.1 (by decide)
                    have rk := rk.trans (Rk.ch rk.j pv.1 (by decide))
                    have bv := bv.ch pv.1 (by decide)
                    have VR := VR.keep (by decide) pv.1 (by decide) (by decide) (by decide) (by decide)
                    have la := fun (w : 0 < q) => (la w).imp fun a v => And.intro (v.1.keep (by decide) pv.1 (by decide) (by decide) (by decide) (by decide)) v.2
                    obtain ⟨b, VB, vb, er⟩ := pv.2.2
                    refine hd_aload pkX14_area rfl rfl (Int.natCast_nonneg _) ?_
                    refine hd_getR (n := 2497) pkX14_area rfl (ghc12.cell 0 rfl).1 (ghc12.cell 0 rfl).2.1 (ghc12.ref 1 rfl) ?_
                    refine hd_ipush (z := 681) pkX14_area rfl ?_
                    refine hd_aload pkX14_area rfl rfl (Int.natCast_nonneg _) ?_
                    refine hd_getR (n := 2497) pkX14_area rfl (ghc12.cell 0 rfl).1 (ghc12.cell 0 rfl).2.1 (ghc12.ref 1 rfl) ?_
                    refine hd_ipush (z := 681) pkX14_area rfl ?_
                    refine hd_iald (n := 690) pkX14_area rfl (ghc12.cell 2 rfl) (by omega) (by omega) (fun v13 ev13 rv13 => ?_)
                    have w55 : -1 ≤ v13 ∧ v13 ≤ 1 := by rw [ev13]; exact VB.1.sg
                    have e55 := ev13.trans VB.1.2.2
                    refine hd_iload pkX14_area rfl rfl ?_
                    refine hd_imul pkX14_area rfl (by rcases hs with w9 | w9 <;> rw [w9] <;> omega) ?_
                    refine hd_iast (n := 690) pkX14_area rfl (ghc12.cell 2 rfl) (by decide) (by omega) (by omega) (fun hh14 ehh14 => ?_)
                    have ghh14 : Str t14 r14 hh14 := by rw [ehh14]; exact ghc12.setA rfl
                    have CW : Ch 70 2496 2497 [681] hc12 hh14 := by rw [ehh14]; exact (Ch.refl _ _ _ _ _).sgn (by decide) (by decide) inS
                    have VB : Hr 70 2496 2497 hh14 681 682 (tmQ sign b) := by
                      rw [ehh14]
                      exact VB.sg (by decide) (by decide) (by decide) (by decide) (tm_parts _ _).1 (tm_parts _ _).2 (sg_tm hs e55)
                    have vb := vb.tm sign
                    generalize tmQ sign b = b at VB vb
                    have rk := rk.trans (Rk.ch rk.j CW (by decide))
                    have bv := bv.ch CW (by decide)
                    have VR := VR.keep (by decide) CW (by decide) (by decide) (by decide) (by decide)
                    have la := fun (w : 0 < q) => (la w).imp fun a v => And.intro (v.1.keep (by decide) CW (by decide) (by decide) (by decide) (by decide)) v.2
                    have cut61 : ∀ (_ : True) (hj61 : MH), Str t14 r14 hj61 → (Rk h hj61 M) → (BV hj61 M row E0 T D) → (Hr 70 2496 2497 hj61 681 682 b) → (∃ r : Rat, Hr 70 2496 2497 hj61 685 686 r ∧ Ar9 (fF E0 D) (4 * k.toNat + q.toNat) r) → MW KX14_area Q 0 0 (pcA pgX14_area 61) [(0, (2, ((2495 : Nat) : Int))), (1, (0, row)), (2, (0, sign)), (3, (0, part)), (4, (0, k)), (5, (0, q))] [] hj61 := by
                      intro _ hj61 gc61 rk bv VB vr
                      obtain ⟨r, VR, ar⟩ := vr
                      refine hd_aload pkX14_area rfl rfl (Int.natCast_nonneg _) ?_
                      refine hd_ipush (z := 681) pkX14_area rfl ?_
                      refine hd_ipush (z := 683) pkX14_area rfl ?_
                      obtain ⟨B1, B2, B0⟩ := VB
                      refine hd_callV pkX14_area rfl (q := (KX14_copy, yX14_copy, 14, 2, 0)) rfl rfl rfl (As := [(0, 681), (0, 683)]) (rest := []) (c := 2495) rfl rfl (Nat.le_of_ble_eq_true rfl) (gc61.cell 0 rfl).1 (gc61.cell 0 rfl).2.1 (h_X14_copy (by decide) (by decide) (by decide) (by decide) B1.1 gc61) (hd_bV (fun hc15 pc => ?_))
                      have ghc15 : Str t14 r14 hc15 := gc61.only pc.1.1 (by decide)
                      have rk := rk.trans (Rk.ch rk.j pc.1 (by decide))
                      have bv := bv.ch pc.1 (by decide)
                      have VR := VR.keep (by decide) pc.1 (by decide) (by decide) (by decide) (by decide)
                      have B2 := B2.keep (by decide) pc.1 (by decide) (by decide)
                      have VU := nv_copy B1 pc
                      refine hd_aload pkX14_area rfl rfl (Int.natCast_nonneg _) ?_
                      refine hd_ipush (z := 682) pkX14_area rfl ?_
                      refine hd_ipush (z := 684) pkX14_area rfl ?_
                      refine hd_callV pkX14_area rfl (q := (KX14_copy, yX14_copy, 14, 2, 0)) rfl rfl rfl (As := [(0, 682), (0, 684)]) (rest := []) (c := 2495) rfl rfl (Nat.le_of_ble_eq_true rfl) (ghc15.cell 0 rfl).1 (ghc15.cell 0 rfl).2.1 (h_X14_copy (by decide) (by decide) (by decide) (by decide) B2.1 ghc15) (hd_bV (fun hc16 pc => ?_))
                      have ghc16 : Str t14 r14 hc16 := ghc15.only pc.1.1 (by decide)
                      have rk := rk.trans (Rk.ch rk.j pc.1 (by decide))
                      have bv := bv.ch pc.1 (by decide)
                      have VR := VR.keep (by decide) pc.1 (by decide) (by decide) (by decide) (by decide)
                      have VU := VU.keep (by decide) pc.1 (by decide) (by decide)
                      have VA : Hr 70 2496 2497 hc16 683 684 b := ⟨VU, nv_copy B2 pc, B0⟩
                      refine hd_iinc (z := 1) pkX14_area rfl rfl (by omega) rfl ?_
                      change MW _ _ _ _ _ [(5, (0, (q + 1))), (0, (2, ((2495 : Nat) : Int))), (1, (0, row)), (2, (0, sign)), (3, (0, part)), (4, (0, k))] _ _
                      refine hd_goto pkX14_area rfl ?_
                      refine m_sub [(0, (2, ((2495 : Nat) : Int))), (1, (0, row)), (2, (0, sign)), (3, (0, part)), (4, (0, k)), (5, (0, (q + 1)))] (List.forall_mem_cons.mpr ⟨rfl, List.forall_mem_cons.mpr ⟨rfl, List.forall_mem_cons.mpr ⟨rfl, List.forall_mem_cons.mpr ⟨rfl, List.forall_mem_cons.mpr ⟨rfl, List.forall_mem_cons.mpr ⟨rfl, fun _ h => absurd h List.not_mem_nil⟩⟩⟩⟩⟩⟩) ?_
                      refine ih35  ((q + 1)) hc16 ghc16 ?_ ?_ ?_ ?_ ?_ ?_
                      · exact rk
                      · exact bv
                      · omega
                      · exact ⟨r, VR, by rw [show 4 * k.toNat + (q + 1 - 1).toNat = 4 * k.toNat + q.toNat by omega]; exact ar⟩
                      · intro _
                        exact ⟨b, VA, vb⟩
                      · omega
                    refine hd_iload pkX14_area rfl rfl ?_
                    refine hd_if_le pkX14_area rfl (fun c17 => ?_) (fun c17 => ?_)
                    · skip
                      refine cut61 trivial hh14 ghh14 ?_ ?_ ?_ ?_
                      · exact rk
                      · exact bv
                      · exact VB
                      · exact ⟨r, VR, by rw [show 4 * k.toNat + q.toNat = 4 * k.toNat + (q - 1).toNat by omega]; exact ar⟩
                    · skip
                      refine hd_aload pkX14_area rfl rfl (Int.natCast_nonneg _) ?_
                      refine hd_aload pkX14_area rfl rfl (Int.natCast_nonneg _) ?_
                      refine hd_getR (n := 2498) pkX14_area rfl (ghh14.cell 0 rfl).1 (ghh14.cell 0 rfl).2.1 (ghh14.ref 2 rfl) ?_
                      refine hd_iload pkX14_area rfl rfl ?_
                      refine hd_iald (n := 3) pkX14_area rfl (ghh14.cell 3 rfl) (by omega) (by omega) (fun v18 ev18 rv18 => ?_)
                      have hl9 : 1 ≤ v18 ∧ v18 ≤ 12 := by rw [ev18]; exact (bv.1.2.2.1 k (by omega) (by omega)).1
                      obtain ⟨a, VA, va⟩ := la (by omega)
                      refine hd_callV pkX14_area rfl (q := (KX14_addPiece, yX14_addPiece, 14, 1, 0)) rfl rfl rfl (As := [(0, v18)]) (rest := []) (c := 2495) rfl rfl (Nat.le_of_ble_eq_true rfl) (ghh14.cell 0 rfl).1 (ghh14.cell 0 rfl).2.1 (h_X14_addPiece hl9 bv.fk bv.2.2.2.2.1 VA VB VR va vb ar (by omega) ghh14) (hd_bV (fun hc19 pp => ?_))
                      have ghc19 : Str t14 r14 hc19 := ghh14.only pp.1.1 (by decide)
                      have rk := rk.trans (Rk.ch rk.j pp.1 (by decide))
                      have bv := bv.ch pp.1 (by decide)
                      have VB := pp.2.2.1
                      obtain ⟨r2, VR, ar⟩ := pp.2.2.2
                      refine cut61 trivial hc19 ghc19 ?_ ?_ ?_ ?_
                      · exact rk
                      · exact bv
                      · exact VB
                      · exact ⟨r2, VR, by rw [show 4 * k.toNat + q.toNat = 4 * k.toNat + (q - 1).toNat + 1 by omega]; exact ar⟩
              refine m_sub [(0, (2, ((2495 : Nat) : Int))), (1, (0, row)), (2, (0, sign)), (3, (0, part)), (4, (0, k)), (5, (0, 0))] (List.forall_mem_cons.mpr ⟨rfl, List.forall_mem_cons.mpr ⟨rfl, List.forall_mem_cons.mpr ⟨rfl, List.forall_mem_cons.mpr ⟨rfl, List.forall_mem_cons.mpr ⟨rfl, List.forall_mem_cons.mpr ⟨rfl, fun _ h => absurd h List.not_mem_nil⟩⟩⟩⟩⟩⟩) ?_
              refine lp35 (((5 : Int) - (0)) + 1).toNat (0) hk9 g29 ?_ ?_ ?_ ?_ ?_ ?_
              · exact rk
              · exact bv
              · omega
              · exact ⟨r, VR, ar⟩
              · intro w
                exact absurd w (by decide)
              · omega
        refine m_sub [(0, (2, ((2495 : Nat) : Int))), (1, (0, row)), (2, (0, sign)), (3, (0, part)), (4, (0, 0))] (List.forall_mem_cons.mpr ⟨rfl, List.forall_mem_cons.mpr ⟨rfl, List.forall_mem_cons.mpr ⟨rfl, List.forall_mem_cons.mpr ⟨rfl, List.forall_mem_cons.mpr ⟨rfl, fun _ h => absurd h List.not_mem_nil⟩⟩⟩⟩⟩) ?_
        refine lp29 ((M - (0)) + 1).toNat (0) hc7 ghc7 ?_ ?_ ?_ ?_ ?_
        · exact rk
        · exact bv
        · omega
        · exact ⟨0, VR, Ar9.zero⟩
        · omega
      · skip
        refine cut16 trivial hc4 ghc4 ?_
        · exact rk
  refine hd_ipush (z := 1) pkX14_area rfl ?_
  refine hd_ic_eq pkX14_area rfl (fun c20 => ?_) (fun c20 => ?_)
  · skip
    refine cut9 trivial ?_
    · omega
  · skip
    refine hd_iload pkX14_area rfl rfl ?_
    refine hd_ipush (z := (-1)) pkX14_area rfl ?_
    refine hd_ic_ne pkX14_area rfl (fun c21 => ?_) (fun c21 => ?_)
    · skip
      refine cut16 trivial hh1 ghh1 ?_
      · exact rk
    · skip
      refine cut9 trivial ?_
      · omega
