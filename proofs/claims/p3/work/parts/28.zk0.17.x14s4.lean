set_option maxRecDepth 20000 in
set_option maxHeartbeats 8000000 in
theorem h_X14_at {h : MH} {row k q part M : Int} (j4 : J4 h M) (r8 : R8 h M) (g : Str t14 r14 h) : MCal KX14_at yX14_at 0 0 [(2, ((2495 : Nat) : Int)), (0, row), (0, k), (0, q), (0, part)] h (mRL fun v h' => Rk h h' M ∧ (v = (if part = -1 then -2 else -1) ∨ ∃ r : Rat, VQ h' M row k q r ∧ -1 ≤ part ∧ ga h' 2495 16 ≠ 0 ∧ SzQ 5 r ∧ (r.den : Int) < 1000000000000000000000000000000000000 ∧ AtR r part v)) := by
  refine MCal.ofMW (Or.inl rfl) ⟨cp_X14, rfl⟩ (Nat.le_of_ble_eq_true rfl) ?_
  generalize eQ : (mRL fun v h' => Rk h h' M ∧ (v = (if part = -1 then -2 else -1) ∨ ∃ r : Rat, VQ h' M row k q r ∧ -1 ≤ part ∧ ga h' 2495 16 ≠ 0 ∧ SzQ 5 r ∧ (r.den : Int) < 1000000000000000000000000000000000000 ∧ AtR r part v) : MO → MH → Prop) = Q
  change MW KX14_at Q 0 0 (pcA pgX14_at 0) [(0, (2, ((2495 : Nat) : Int))), (1, (0, row)), (2, (0, k)), (3, (0, q)), (4, (0, part))] [] h
  refine hd_locI (i := 1) rfl (fun rrow => ?_)
  refine hd_locI (i := 2) rfl (fun rk => ?_)
  refine hd_locI (i := 3) rfl (fun rq => ?_)
  refine hd_locI (i := 4) rfl (fun rpart => ?_)
  have hM := j4.1.1
  refine hd_aload pkX14_at rfl rfl (Int.natCast_nonneg _) ?_
  refine hd_ipush (z := 0) pkX14_at rfl ?_
  refine hd_putI pkX14_at rfl (g.cell 0 rfl).1 (g.cell 0 rfl).2.1 (fun hh1 ehh1 => ?_)
  have ghh1 : Str t14 r14 hh1 := by rw [ehh1]; exact g.setF rfl
  have rk := Rk.fault j4 ehh1
  have cut19 : ∀ (_ : True) (hj19 : MH), Str t14 r14 hj19 → (Rk h hj19 M) → MW KX14_at Q 0 0 (pcA pgX14_at 19) [(0, (2, ((2495 : Nat) : Int))), (1, (0, row)), (2, (0, k)), (3, (0, q)), (4, (0, part))] [] hj19 := by
    intro _ hj19 gc19 rk
    refine hd_iload pkX14_at rfl rfl ?_
    refine hd_callS pkX14_at rfl (q := (KX14_none, yX14_none, 14, 1, 1)) rfl rfl rfl (As := [(0, part)]) (rest := []) rfl rfl (Nat.le_of_ble_eq_true rfl) rfl (h_X14_none gc19) (hd_bL (fun no hc2 po => ?_))
    obtain ⟨po, ehc2⟩ := po
    replace ehc2 := ehc2.symm
    subst ehc2
    refine hd_lret pkX14_at rfl ?_
    subst eQ
    exact ⟨rfl, rfl, rk, Or.inl po⟩
  refine hd_aload pkX14_at rfl rfl (Int.natCast_nonneg _) ?_
  refine hd_iload pkX14_at rfl rfl ?_
  refine hd_callV pkX14_at rfl (q := (KX14_noBeam, yX14_noBeam, 14, 1, 0)) rfl rfl rfl (As := [(0, k)]) (rest := []) (c := 2495) rfl rfl (Nat.le_of_ble_eq_true rfl) (ghh1.cell 0 rfl).1 (ghh1.cell 0 rfl).2.1 (h_X14_noBeam rk.j.1.2.1 ghh1) (hd_bI (fun nb hc3 pb => ?_))
  obtain ⟨pb, ehc3⟩ := pb
  replace ehc3 := ehc3.symm
  subst ehc3
  refine hd_if_ne pkX14_at rfl (fun c4 => ?_) (fun c4 => ?_)
  · skip
    refine cut19 trivial hh1 ghh1 ?_
    · exact rk
  · skip
    refine hd_iload pkX14_at rfl rfl ?_
    refine hd_if_lt pkX14_at rfl (fun c5 => ?_) (fun c5 => ?_)
    · skip
      refine cut19 trivial hh1 ghh1 ?_
      · exact rk
    · skip
      refine hd_iload pkX14_at rfl rfl ?_
      refine hd_ipush (z := 4) pkX14_at rfl ?_
      refine hd_ic_gt pkX14_at rfl (fun c6 => ?_) (fun c6 => ?_)
      · skip
        refine cut19 trivial hh1 ghh1 ?_
        · exact rk
      · skip
        refine hd_iload pkX14_at rfl rfl ?_
        refine hd_ipush (z := (-1)) pkX14_at rfl ?_
        refine hd_ic_lt pkX14_at rfl (fun c7 => ?_) (fun c7 => ?_)
        · skip
          refine cut19 trivial hh1 ghh1 ?_
          · exact rk
        · skip
          refine hd_aload pkX14_at rfl rfl (Int.natCast_nonneg _) ?_
          refine hd_iload pkX14_at rfl rfl ?_
          refine hd_callV pkX14_at rfl (q := (KX14_noRow, yX14_noRow, 14, 1, 0)) rfl rfl rfl (As := [(0, row)]) (rest := []) (c := 2495) rfl rfl (Nat.le_of_ble_eq_true rfl) (ghh1.cell 0 rfl).1 (ghh1.cell 0 rfl).2.1 (h_X14_noRow rk.j (rk.r8 r8) ghh1) (hd_bI (fun nr hc8 pn => ?_))
          have ghc8 : Str t14 r14 hc8 := ghh1.rk pn.2.1
          have r12 := rk.2.1 12 (by decide) (by decide) (by decide) (by decide) (by decide)
          have rk := rk.trans pn.2.1
          have nv := pn.1
          have nf := pn.2.2
          refine hd_if_eq pkX14_at rfl (fun c9 => ?_) (fun c9 => ?_)
          · skip
            refine hd_aload pkX14_at rfl rfl (Int.natCast_nonneg _) ?_
            refine hd_iload pkX14_at rfl rfl ?_
            refine hd_iload pkX14_at rfl rfl ?_
            refine hd_iload pkX14_at rfl rfl ?_
            obtain ⟨rb, n16, sv, fe⟩ := nf (by omega)
            obtain ⟨E0, T, D, bv⟩ := BV.of rk.j.1 (rk.r8 r8) rb.1 (by have q := rk.2.1 12 (by decide) (by decide) (by decide) (by decide) (by decide); omega) sv fe
            refine hd_callV pkX14_at rfl (q := (KX14_value, yX14_value, 14, 3, 0)) rfl rfl rfl (As := [(0, row), (0, k), (0, q)]) (rest := []) (c := 2495) rfl rfl (Nat.le_of_ble_eq_true rfl) (ghc8.cell 0 rfl).1 (ghc8.cell 0 rfl).2.1 (h_X14_value ⟨by omega, by omega⟩ ⟨by omega, by omega⟩ bv.1.1.1 bv.1.1.2 bv.1.2.1 bv.1.2.2.1 bv.2.1 rfl rfl rfl bv.2.2.1.1 bv.2.2.1.2.1 bv.2.2.1.2.2.1 bv.2.2.1.2.2.2 bv.2.2.2.1.1 bv.2.2.2.1.2.1 bv.2.2.2.1.2.2 bv.2.2.2.2.1 bv.2.2.2.2.2.1 bv.2.2.2.2.2.2 ghc8) (hd_bV (fun hc10 pv => ?_))
            have ghc10 : Str t14 r14 hc10 := ghc8.only pv.1.1 (by decide)
            have rk8 := Rk.ch rk.j pv.1 (by decide)
            obtain ⟨r, VS, vf, er⟩ := pv.2.2
            have vq0 : VQ hc8 M row k q r := ⟨T, bv.2.2.2.2.1, er⟩
            have vq := vq0.rk rk8 n16
            have n16 := (rk8.2.2.2 n16).1
            have rk := rk.trans rk8
            refine hd_aload pkX14_at rfl rfl (Int.natCast_nonneg _) ?_
            refine hd_ipush (z := 681) pkX14_at rfl ?_
            refine hd_ipush (z := 682) pkX14_at rfl ?_
            refine hd_iload pkX14_at rfl rfl ?_
            refine hd_callV pkX14_at rfl (q := (KX14_told, yX14_told, 14, 3, 0)) rfl rfl rfl (As := [(0, 681), (0, 682), (0, part)]) (rest := []) (c := 2495) rfl rfl (Nat.le_of_ble_eq_true rfl) (ghc10.cell 0 rfl).1 (ghc10.cell 0 rfl).2.1 (h_X14_told (by decide) (by decide) (by decide) (by decide) VS.1.1 VS.1.2.1 VS.2.1.1 VS.2.1.2.1 ghc10) (hd_bL (fun tv hc11 pt => ?_))
            have ghc11 : Str t14 r14 hc11 := ghc10.only pt.1.1 (by decide)
            have rk8 := Rk.ch rk.j pt.1 (by decide)
            have vq := vq.rk rk8 n16
            have n16 := (rk8.2.2.2 n16).1
            have rk := rk.trans rk8
            refine hd_lret pkX14_at rfl ?_
            subst eQ
            exact ⟨rfl, rfl, rk, Or.inr ⟨r, vq, by omega, n16, vf.fk bv.fk, den_lt bv.fk vf, fun q => (pt.2.1 q).trans VS.1.2.2, fun q => pt.2.2 q⟩⟩
          · skip
            refine cut19 trivial hc8 ghc8 ?_
            · exact rk
set_option maxRecDepth 20000 in
set_option maxHeartbeats 8000000 in
theorem h_X14_turned {h : MH} {row M : Int} (j4 : J4 h M) (r8 : R8 h M) (g : Str t14 r14 h) : MCal KX14_turned yX14_turned 0 0 [(2, ((2495 : Nat) : Int)), (0, row)] h (mRI fun v h' => (v = 0 ∨ v = 1) ∧ Rk h h' M) := by
  refine MCal.ofMW (Or.inl rfl) ⟨cp_X14, rfl⟩ (Nat.le_of_ble_eq_true rfl) ?_
  generalize eQ : (mRI fun v h' => (v = 0 ∨ v = 1) ∧ Rk h h' M : MO → MH → Prop) = Q
  change MW KX14_turned Q 0 0 (pcA pgX14_turned 0) [(0, (2, ((2495 : Nat) : Int))), (1, (0, row))] [] h
  refine hd_locI (i := 1) rfl (fun rrow => ?_)
  have hM := j4.1.1
  refine hd_aload pkX14_turned rfl rfl (Int.natCast_nonneg _) ?_
  refine hd_ipush (z := 0) pkX14_turned rfl ?_
  refine hd_putI pkX14_turned rfl (g.cell 0 rfl).1 (g.cell 0 rfl).2.1 (fun hh1 ehh1 => ?_)
  have ghh1 : Str t14 r14 hh1 := by rw [ehh1]; exact g.setF rfl
  have rk := Rk.fault j4 ehh1
  refine hd_aload pkX14_turned rfl rfl (Int.natCast_nonneg _) ?_
  refine hd_iload pkX14_turned rfl rfl ?_
  refine hd_callV pkX14_turned rfl (q := (KX14_noRow, yX14_noRow, 14, 1, 0)) rfl rfl rfl (As := [(0, row)]) (rest := []) (c := 2495) rfl rfl (Nat.le_of_ble_eq_true rfl) (ghh1.cell 0 rfl).1 (ghh1.cell 0 rfl).2.1 (h_X14_noRow rk.j (rk.r8 r8) ghh1) (hd_bI (fun nr hc2 pn => ?_))
  have ghc2 : Str t14 r14 hc2 := ghh1.rk pn.2.1
  have r12 := rk.2.1 12 (by decide) (by decide) (by decide) (by decide) (by decide)
  have rk := rk.trans pn.2.1
  have nv := pn.1
  have nf := pn.2.2
  refine hd_if_ne pkX14_turned rfl (fun c3 => ?_) (fun c3 => ?_)
  · skip
    refine hd_ipush (z := 0) pkX14_turned rfl ?_
    refine hd_zret pkX14_turned rfl (by omega) ?_
    subst eQ
    exact ⟨rfl, rfl, Or.inl rfl, rk⟩
  · skip
    refine hd_aload pkX14_turned rfl rfl (Int.natCast_nonneg _) ?_
    refine hd_getR (n := 2505) pkX14_turned rfl (ghc2.cell 0 rfl).1 (ghc2.cell 0 rfl).2.1 (ghc2.ref 9 rfl) ?_
    refine hd_iload pkX14_turned rfl rfl ?_
    refine hd_iald (n := 8) pkX14_turned rfl (ghc2.cell 10 rfl) (by have rb := (nf (by omega)).1; have q := r8.1; omega) (by have rb := (nf (by omega)).1; have q := r8.1; omega) (fun v4 ev4 rv4 => ?_)
    refine hd_ipush (z := 2) pkX14_turned rfl ?_
    refine hd_ic_ne pkX14_turned rfl (fun c5 => ?_) (fun c5 => ?_)
    · skip
      refine hd_ipush (z := 0) pkX14_turned rfl ?_
      refine hd_zret pkX14_turned rfl (by omega) ?_
      subst eQ
      exact ⟨rfl, rfl, Or.inl rfl, rk⟩
    · skip
      refine hd_ipush (z := 1) pkX14_turned rfl ?_
      refine hd_goto pkX14_turned rfl ?_
      refine hd_zret pkX14_turned rfl (by omega) ?_
      subst eQ
      exact ⟨rfl, rfl, Or.inr rfl, rk⟩
set_option maxRecDepth 20000 in
set_option maxHeartbeats 8000000 in
theorem h_X14_sums {h : MH} {M : Int} (j4 : J4 h M) (g : Str t14 r14 h) : MCal KX14_sums yX14_sums 0 0 [(2, ((2495 : Nat) : Int))] h (mRI fun v h' => (v = 0 ∨ v = 1) ∧ Rk h h' M) := by
  refine MCal.ofMW (Or.inl rfl) ⟨cp_X14, rfl⟩ (Nat.le_of_ble_eq_true rfl) ?_
  generalize eQ : (mRI fun v h' => (v = 0 ∨ v = 1) ∧ Rk h h' M : MO → MH → Prop) = Q
  change MW KX14_sums Q 0 0 (pcA pgX14_sums 0) [(0, (2, ((2495 : Nat) : Int)))] [] h
  refine hd_aload pkX14_sums rfl rfl (Int.natCast_nonneg _) ?_
  refine hd_ipush (z := 0) pkX14_sums rfl ?_
  refine hd_putI pkX14_sums rfl (g.cell 0 rfl).1 (g.cell 0 rfl).2.1 (fun hh1 ehh1 => ?_)
  have ghh1 : Str t14 r14 hh1 := by rw [ehh1]; exact g.setF rfl
  have rk := Rk.fault j4 ehh1
  refine hd_aload pkX14_sums rfl rfl (Int.natCast_nonneg _) ?_
  refine hd_callV pkX14_sums rfl (q := (KX14_isFirm, yX14_isFirm, 14, 0, 0)) rfl rfl rfl (As := []) (rest := []) (c := 2495) rfl rfl (Nat.le_of_ble_eq_true rfl) (ghh1.cell 0 rfl).1 (ghh1.cell 0 rfl).2.1 (h_X14_isFirm rk.j ghh1) (hd_bI (fun fw hc2 pf => ?_))
  have ghc2 : Str t14 r14 hc2 := ghh1.rk pf.2.1
  have rk := rk.trans pf.2.1
  have n16 := pf.2.2.1
  have sv := pf.2.2.2.1
  have fv := pf.1
  have fe := pf.2.2.2.2
  refine hd_zret pkX14_sums rfl (by omega) ?_
  subst eQ
  exact ⟨rfl, rfl, fv, rk⟩
