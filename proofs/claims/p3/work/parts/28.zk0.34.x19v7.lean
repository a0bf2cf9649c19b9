set_option maxRecDepth 20000 in
set_option maxHeartbeats 8000000 in
theorem h_X19_unit {h : MH} {u cn : Int} (j19 : J19 h cn) (g : Str t19 r19 h) : MCal KX19_unit yX19_unit 0 0 [(2, ((2514 : Nat) : Int)), (0, u)] h (mRI fun v h' => (v = 0 ∨ v = 1) ∧ Only C19 h h' ∧ J19 h' cn ∧ Str t19 r19 h') := by
  refine MCal.ofMW (Or.inl rfl) ⟨cp_X19, rfl⟩ (Nat.le_of_ble_eq_true rfl) ?_
  generalize eQ : (mRI fun v h' => (v = 0 ∨ v = 1) ∧ Only C19 h h' ∧ J19 h' cn ∧ Str t19 r19 h' : MO → MH → Prop) = Q
  change MW KX19_unit Q 0 0 (pcA pgX19_unit 0) [(0, (2, ((2514 : Nat) : Int))), (1, (0, u))] [] h
  refine hd_locI (i := 1) rfl (fun ru => ?_)
  have oo : Only C19 h h := Only.refl _ _
  have jj := j19
  have cut10 : ∀ (_ : True), MW KX19_unit Q 0 0 (pcA pgX19_unit 10) [(0, (2, ((2514 : Nat) : Int))), (1, (0, u))] [] h := by
    intro _
    refine hd_ipush (z := 0) pkX19_unit rfl ?_
    refine hd_zret pkX19_unit rfl (by omega) ?_
    subst eQ
    exact ⟨rfl, rfl, Or.inl rfl, oo, jj, g⟩
  refine hd_iload pkX19_unit rfl rfl ?_
  refine hd_ipush (z := 32) pkX19_unit rfl ?_
  refine hd_ic_lt pkX19_unit rfl (fun c1 => ?_) (fun c1 => ?_)
  · skip
    refine cut10 trivial
  · skip
    refine hd_iload pkX19_unit rfl rfl ?_
    refine hd_ipush (z := 126) pkX19_unit rfl ?_
    refine hd_ic_gt pkX19_unit rfl (fun c2 => ?_) (fun c2 => ?_)
    · skip
      refine cut10 trivial
    · skip
      refine hd_aload pkX19_unit rfl rfl (Int.natCast_nonneg _) ?_
      refine hd_getI pkX19_unit rfl (g.cell 0 rfl).1 (g.cell 0 rfl).2.1 (fun v3 ev3 rv3 => ?_)
      obtain ⟨sn9, qv3⟩ : ∃ x : Int, x = v3 := ⟨_, rfl⟩
      have es : ga h 2514 24 = sn9 := by rw [qv3, ev3]; rfl
      have z9 : 0 ≤ sn9 ∧ sn9 ≤ 100 := by rw [← es]; exact jj.1.2.2.2.1.1
      subst qv3
      refine hd_ipush (z := 100) pkX19_unit rfl ?_
      refine hd_ic_ne pkX19_unit rfl (fun c4 => ?_) (fun c4 => ?_)
      · skip
        refine hd_aload pkX19_unit rfl rfl (Int.natCast_nonneg _) ?_
        refine hd_getR (n := 2527) pkX19_unit rfl (g.cell 0 rfl).1 (g.cell 0 rfl).2.1 (g.ref 12 rfl) ?_
        refine hd_aload pkX19_unit rfl rfl (Int.natCast_nonneg _) ?_
        refine hd_getI pkX19_unit rfl (g.cell 0 rfl).1 (g.cell 0 rfl).2.1 (fun v5 ev5 rv5 => ?_)
        have qv5 : sn9 = v5 := by rw [ev5]; exact es.symm
        subst qv5
        refine hd_iload pkX19_unit rfl rfl ?_
        refine hd_iast (n := 100) pkX19_unit rfl (g.cell 13 rfl) (by decide) (by omega) (by omega) (fun hh6 ehh6 => ?_)
        have ghh6 : Str t19 r19 hh6 := by rw [ehh6]; exact g.setA rfl
        have oo := oo.trans ((Only.wr ehh6).mono (by decide))
        have jj : J19 hh6 cn := jj.cel (Only.wr ehh6) (by decide) (by decide) (jj.1.tr (Only.wr ehh6) (fun j _ => (Only.wr ehh6).ga (by decide) j) (by decide) (by
          have o := Only.wr ehh6
          have t := jj.1.2.1
          unfold Tr9 at t ⊢
          rw [show ga hh6 2514 = ga h 2514 from funext fun j => o.ga (by decide) j, show ga hh6 2520 = ga h 2520 from funext fun j => o.ga (by decide) j, show ga hh6 2521 = ga h 2521 from funext fun j => o.ga (by decide) j, show ga hh6 2522 = ga h 2522 from funext fun j => o.ga (by decide) j, show ga hh6 2523 = ga h 2523 from funext fun j => o.ga (by decide) j, show ga hh6 2524 = ga h 2524 from funext fun j => o.ga (by decide) j]
          exact t))
        have es := ((Only.wr ehh6).ga (d := 2514) (by decide) 24).trans es
        refine hd_aload pkX19_unit rfl rfl (Int.natCast_nonneg _) ?_
        refine hd_dup pkX19_unit rfl rfl ?_
        refine hd_getI pkX19_unit rfl (ghh6.cell 0 rfl).1 (ghh6.cell 0 rfl).2.1 (fun v7 ev7 rv7 => ?_)
        have qv7 : sn9 = v7 := by rw [ev7]; exact es.symm
        subst qv7
        refine hd_ipush (z := 1) pkX19_unit rfl ?_
        refine hd_iadd pkX19_unit rfl (by omega) ?_
        refine hd_putI pkX19_unit rfl (ghh6.cell 0 rfl).1 (ghh6.cell 0 rfl).2.1 (fun hh8 ehh8 => ?_)
        have ghh8 : Str t19 r19 hh8 := by rw [ehh8]; exact ghh6.setF rfl
        have oo := oo.trans ((Only.wr ehh8).mono (by decide))
        have jj : J19 hh8 cn := jj.tx24 ehh8 ⟨by omega, by omega⟩
        refine hd_ipush (z := 1) pkX19_unit rfl ?_
        refine hd_zret pkX19_unit rfl (by omega) ?_
        subst eQ
        exact ⟨rfl, rfl, Or.inr rfl, oo, jj, ghh8⟩
      · skip
        refine cut10 trivial
set_option maxRecDepth 20000 in
set_option maxHeartbeats 8000000 in
theorem h_X19_gap {h : MH} {t a b cn : Int} (j19 : J19 h cn) (g : Str t19 r19 h) : MCal KX19_gap yX19_gap 0 0 [(2, ((2514 : Nat) : Int)), (0, t), (1, a), (1, b)] h (mRI fun v h' => (v = 0 ∨ v = 1) ∧ Only C19 h h' ∧ J19 h' cn ∧ Str t19 r19 h') := by
  refine MCal.ofMW (Or.inl rfl) ⟨cp_X19, rfl⟩ (Nat.le_of_ble_eq_true rfl) ?_
  generalize eQ : (mRI fun v h' => (v = 0 ∨ v = 1) ∧ Only C19 h h' ∧ J19 h' cn ∧ Str t19 r19 h' : MO → MH → Prop) = Q
  change MW KX19_gap Q 0 0 (pcA pgX19_gap 0) [(0, (2, ((2514 : Nat) : Int))), (1, (0, t)), (2, (1, a)), (4, (1, b))] [] h
  refine hd_locI (i := 1) rfl (fun rt => ?_)
  refine hd_locL (i := 2) rfl (fun ra => ?_)
  refine hd_locL (i := 4) rfl (fun rb => ?_)
  have oo : Only C19 h h := Only.refl _ _
  have jj := j19
  have t6 := j19.1.2.1.1
  refine hd_aload pkX19_gap rfl rfl (Int.natCast_nonneg _) ?_
  have cut20 : ∀ (_ : True), MW KX19_gap Q 0 0 (pcA pgX19_gap 20) [(0, (2, ((2514 : Nat) : Int))), (1, (0, t)), (2, (1, a)), (4, (1, b))] [] h := by
    intro _
    refine hd_ipush (z := 0) pkX19_gap rfl ?_
    refine hd_zret pkX19_gap rfl (by omega) ?_
    subst eQ
    exact ⟨rfl, rfl, Or.inl rfl, oo, jj, g⟩
  refine hd_iload pkX19_gap rfl rfl ?_
  refine hd_callV pkX19_gap rfl (q := (KX19_noTrain, yX19_noTrain, 19, 1, 0)) rfl rfl rfl (As := [(0, t)]) (rest := []) (c := 2514) rfl rfl (Nat.le_of_ble_eq_true rfl) (g.cell 0 rfl).1 (g.cell 0 rfl).2.1 (h_X19_noTrain (tn := ga h 2514 7) rfl g) (hd_bI (fun nt hc1 pn => ?_))
  obtain ⟨pn, ehc1⟩ := pn
  replace ehc1 := ehc1.symm
  subst ehc1
  refine hd_if_ne pkX19_gap rfl (fun c2 => ?_) (fun c2 => ?_)
  · skip
    refine cut20 trivial
  · skip
    refine hd_lload pkX19_gap rfl rfl ?_
    refine hd_lpush (z := 0) pkX19_gap rfl ?_
    refine hd_lc_lt pkX19_gap rfl (fun c3 => ?_) (fun c3 => ?_)
    · skip
      refine cut20 trivial
    · skip
      refine hd_lload pkX19_gap rfl rfl ?_
      refine hd_lpush (z := 300) pkX19_gap rfl ?_
      refine hd_lc_gt pkX19_gap rfl (fun c4 => ?_) (fun c4 => ?_)
      · skip
        refine cut20 trivial
      · skip
        refine hd_lload pkX19_gap rfl rfl ?_
        refine hd_lload pkX19_gap rfl rfl ?_
        refine hd_lc_lt pkX19_gap rfl (fun c5 => ?_) (fun c5 => ?_)
        · skip
          refine cut20 trivial
        · skip
          refine hd_lload pkX19_gap rfl rfl ?_
          refine hd_lpush (z := 300) pkX19_gap rfl ?_
          refine hd_lc_le pkX19_gap rfl (fun c6 => ?_) (fun c6 => ?_)
          · skip
            refine hd_aload pkX19_gap rfl rfl (Int.natCast_nonneg _) ?_
            refine hd_getR (n := 2523) pkX19_gap rfl (g.cell 0 rfl).1 (g.cell 0 rfl).2.1 (g.ref 8 rfl) ?_
            refine hd_iload pkX19_gap rfl rfl ?_
            refine hd_lload pkX19_gap rfl rfl ?_
            refine hd_l2i pkX19_gap rfl (by omega) ?_
            refine hd_iast (n := 6) pkX19_gap rfl (g.cell 9 rfl) (by decide) (by omega) (by omega) (fun hh7 ehh7 => ?_)
            have ghh7 : Str t19 r19 hh7 := by rw [ehh7]; exact g.setA rfl
            have oo := oo.trans ((Only.wr ehh7).mono (by decide))
            have jj : J19 hh7 cn := jj.gp ehh7 (Or.inl rfl) ⟨by omega, by omega⟩ ⟨by omega, by omega⟩
            refine hd_aload pkX19_gap rfl rfl (Int.natCast_nonneg _) ?_
            refine hd_getR (n := 2524) pkX19_gap rfl (ghh7.cell 0 rfl).1 (ghh7.cell 0 rfl).2.1 (ghh7.ref 9 rfl) ?_
            refine hd_iload pkX19_gap rfl rfl ?_
            refine hd_lload pkX19_gap rfl rfl ?_
            refine hd_l2i pkX19_gap rfl (by omega) ?_
            refine hd_iast (n := 6) pkX19_gap rfl (ghh7.cell 10 rfl) (by decide) (by omega) (by omega) (fun hh8 ehh8 => ?_)
            have ghh8 : Str t19 r19 hh8 := by rw [ehh8]; exact ghh7.setA rfl
            have oo := oo.trans ((Only.wr ehh8).mono (by decide))
            have jj : J19 hh8 cn := jj.gp ehh8 (Or.inr rfl) ⟨by omega, by omega⟩ ⟨by omega, by omega⟩
            refine hd_ipush (z := 1) pkX19_gap rfl ?_
            refine hd_zret pkX19_gap rfl (by omega) ?_
            subst eQ
            exact ⟨rfl, rfl, Or.inr rfl, oo, jj, ghh8⟩
          · skip
            refine cut20 trivial
