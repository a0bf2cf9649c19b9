set_option maxRecDepth 20000 in
set_option maxHeartbeats 8000000 in
theorem h_X19_row {h : MH} {p9 u9 w9 cn : Int} (j19 : J19 h cn) (g : Str t19 r19 h) : MCal KX19_row yX19_row 0 0 [(2, ((2514 : Nat) : Int)), (1, p9), (1, u9), (1, w9)] h (mRI fun v h' => (v = 0 ∨ v = 1) ∧ Only C19 h h' ∧ (∃ c2 : Int, J19 h' c2) ∧ Str t19 r19 h') := by
  refine MCal.ofMW (Or.inl rfl) ⟨cp_X19, rfl⟩ (Nat.le_of_ble_eq_true rfl) ?_
  generalize eQ : (mRI fun v h' => (v = 0 ∨ v = 1) ∧ Only C19 h h' ∧ (∃ c2 : Int, J19 h' c2) ∧ Str t19 r19 h' : MO → MH → Prop) = Q
  change MW KX19_row Q 0 0 (pcA pgX19_row 0) [(0, (2, ((2514 : Nat) : Int))), (1, (1, p9)), (3, (1, u9)), (5, (1, w9))] [] h
  refine hd_locL (i := 1) rfl (fun rp9 => ?_)
  refine hd_locL (i := 3) rfl (fun ru9 => ?_)
  refine hd_locL (i := 5) rfl (fun rw9 => ?_)
  have oo : Only C19 h h := Only.refl _ _
  have jj := j19
  have cb := j19.1.1.2.1
  have cut42 : ∀ (_ : True), MW KX19_row Q 0 0 (pcA pgX19_row 42) [(0, (2, ((2514 : Nat) : Int))), (1, (1, p9)), (3, (1, u9)), (5, (1, w9))] [] h := by
    intro _
    refine hd_ipush (z := 0) pkX19_row rfl ?_
    refine hd_zret pkX19_row rfl (by omega) ?_
    subst eQ
    exact ⟨rfl, rfl, Or.inl rfl, oo, ⟨_, jj⟩, g⟩
  refine hd_aload pkX19_row rfl rfl (Int.natCast_nonneg _) ?_
  refine hd_getI pkX19_row rfl (g.cell 0 rfl).1 (g.cell 0 rfl).2.1 (fun v1 ev1 rv1 => ?_)
  have qv1 : cn = v1 := by rw [ev1]; exact jj.1.1.1.symm
  subst qv1
  refine hd_ipush (z := 14) pkX19_row rfl ?_
  refine hd_ic_eq pkX19_row rfl (fun c2 => ?_) (fun c2 => ?_)
  · skip
    refine cut42 trivial
  · skip
    refine hd_lload pkX19_row rfl rfl ?_
    refine hd_lpush (z := 0) pkX19_row rfl ?_
    refine hd_lc_lt pkX19_row rfl (fun c3 => ?_) (fun c3 => ?_)
    · skip
      refine cut42 trivial
    · skip
      refine hd_lload pkX19_row rfl rfl ?_
      refine hd_lpush (z := 400) pkX19_row rfl ?_
      refine hd_lc_gt pkX19_row rfl (fun c4 => ?_) (fun c4 => ?_)
      · skip
        refine cut42 trivial
      · skip
        have cut26 : ∀ (_ : True), (0 < cn → ga h 2517 (cn - 1) < p9) → MW KX19_row Q 0 0 (pcA pgX19_row 26) [(0, (2, ((2514 : Nat) : Int))), (1, (1, p9)), (3, (1, u9)), (5, (1, w9))] [] h := by
          intro _ lst
          refine hd_lload pkX19_row rfl rfl ?_
          refine hd_lpush (z := (-1000000)) pkX19_row rfl ?_
          refine hd_lc_lt pkX19_row rfl (fun c5 => ?_) (fun c5 => ?_)
          · skip
            refine cut42 trivial
          · skip
            refine hd_lload pkX19_row rfl rfl ?_
            refine hd_lpush (z := 1000000) pkX19_row rfl ?_
            refine hd_lc_gt pkX19_row rfl (fun c6 => ?_) (fun c6 => ?_)
            · skip
              refine cut42 trivial
            · skip
              refine hd_lload pkX19_row rfl rfl ?_
              refine hd_lpush (z := 1) pkX19_row rfl ?_
              refine hd_lc_lt pkX19_row rfl (fun c7 => ?_) (fun c7 => ?_)
              · skip
                refine cut42 trivial
              · skip
                refine hd_lload pkX19_row rfl rfl ?_
                refine hd_lpush (z := 1000) pkX19_row rfl ?_
                refine hd_lc_le pkX19_row rfl (fun c8 => ?_) (fun c8 => ?_)
                · skip
                  refine hd_aload pkX19_row rfl rfl (Int.natCast_nonneg _) ?_
                  refine hd_getR (n := 2517) pkX19_row rfl (g.cell 0 rfl).1 (g.cell 0 rfl).2.1 (g.ref 2 rfl) ?_
                  refine hd_aload pkX19_row rfl rfl (Int.natCast_nonneg _) ?_
                  refine hd_getI pkX19_row rfl (g.cell 0 rfl).1 (g.cell 0 rfl).2.1 (fun v9 ev9 rv9 => ?_)
                  have qv9 : cn = v9 := by rw [ev9]; exact jj.1.1.1.symm
                  subst qv9
                  refine hd_lload pkX19_row rfl rfl ?_
                  refine hd_l2i pkX19_row rfl (by omega) ?_
                  refine hd_iast (n := 14) pkX19_row rfl (g.cell 3 rfl) (by decide) (by omega) (by omega) (fun hh10 ehh10 => ?_)
                  have ghh10 : Str t19 r19 hh10 := by rw [ehh10]; exact g.setA rfl
                  have oo := oo.trans ((Only.wr ehh10).mono (by decide))
                  have jj := jj.wc ehh10 (by decide)
                  have n2517 : ga hh10 2517 cn = p9 := (ga_wr ehh10 (by omega) (by omega)).trans (if_pos rfl)
                  have ls2 : 0 < cn → ga hh10 2517 (cn - 1) < p9 := fun q => by
                    rw [ga_wr ehh10 (by omega) (by omega), if_neg (by omega)]
                    exact lst q
                  refine hd_aload pkX19_row rfl rfl (Int.natCast_nonneg _) ?_
                  refine hd_getR (n := 2518) pkX19_row rfl (ghh10.cell 0 rfl).1 (ghh10.cell 0 rfl).2.1 (ghh10.ref 3 rfl) ?_
                  refine hd_aload pkX19_row rfl rfl (Int.natCast_nonneg _) ?_
                  refine hd_getI pkX19_row rfl (ghh10.cell 0 rfl).1 (ghh10.cell 0 rfl).2.1 (fun v11 ev11 rv11 => ?_)
                  have qv11 : cn = v11 := by rw [ev11]; exact jj.1.1.1.symm
                  subst qv11
                  refine hd_lload pkX19_row rfl rfl ?_
                  refine hd_last (n := 14) pkX19_row rfl (ghh10.cell 4 rfl) (by decide) (by omega) (by omega) (fun hh12 ehh12 => ?_)
                  have ghh12 : Str t19 r19 hh12 := by rw [ehh12]; exact ghh10.setA rfl
                  have oo := oo.trans ((Only.wr ehh12).mono (by decide))
                  have jj := jj.wc ehh12 (by decide)
                  have n2518 : ga hh12 2518 cn = u9 := (ga_wr ehh12 (by omega) (by omega)).trans (if_pos rfl)
                  have n2517 := ((Only.wr ehh12).ga (d := 2517) (by decide) _).trans n2517
                  have ls2 := fun (q : 0 < cn) => (by rw [(Only.wr ehh12).ga (d := 2517) (by decide)]; exact ls2 q : ga hh12 2517 (cn - 1) < p9)
                  refine hd_aload pkX19_row rfl rfl (Int.natCast_nonneg _) ?_
                  refine hd_getR (n := 2519) pkX19_row rfl (ghh12.cell 0 rfl).1 (ghh12.cell 0 rfl).2.1 (ghh12.ref 4 rfl) ?_
                  refine hd_aload pkX19_row rfl rfl (Int.natCast_nonneg _) ?_
                  refine hd_getI pkX19_row rfl (ghh12.cell 0 rfl).1 (ghh12.cell 0 rfl).2.1 (fun v13 ev13 rv13 => ?_)
                  have qv13 : cn = v13 := by rw [ev13]; exact jj.1.1.1.symm
                  subst qv13
                  refine hd_lload pkX19_row rfl rfl ?_
                  refine hd_last (n := 14) pkX19_row rfl (ghh12.cell 5 rfl) (by decide) (by omega) (by omega) (fun hh14 ehh14 => ?_)
                  have ghh14 : Str t19 r19 hh14 := by rw [ehh14]; exact ghh12.setA rfl
                  have oo := oo.trans ((Only.wr ehh14).mono (by decide))
                  have jj := jj.wc ehh14 (by decide)
                  have n2519 : ga hh14 2519 cn = w9 := (ga_wr ehh14 (by omega) (by omega)).trans (if_pos rfl)
                  have n2517 := ((Only.wr ehh14).ga (d := 2517) (by decide) _).trans n2517
                  have n2518 := ((Only.wr ehh14).ga (d := 2518) (by decide) _).trans n2518
                  have ls2 := fun (q : 0 < cn) => (by rw [(Only.wr ehh14).ga (d := 2517) (by decide)]; exact ls2 q : ga hh14 2517 (cn - 1) < p9)
                  refine hd_aload pkX19_row rfl rfl (Int.natCast_nonneg _) ?_
                  refine hd_dup pkX19_row rfl rfl ?_
                  refine hd_getI pkX19_row rfl (ghh14.cell 0 rfl).1 (ghh14.cell 0 rfl).2.1 (fun v15 ev15 rv15 => ?_)
                  have qv15 : cn = v15 := by rw [ev15]; exact jj.1.1.1.symm
                  subst qv15
                  refine hd_ipush (z := 1) pkX19_row rfl ?_
                  refine hd_iadd pkX19_row rfl (by omega) ?_
                  refine hd_putI pkX19_row rfl (ghh14.cell 0 rfl).1 (ghh14.cell 0 rfl).2.1 (fun hh16 ehh16 => ?_)
                  have ghh16 : Str t19 r19 hh16 := by rw [ehh16]; exact ghh14.setF rfl
                  have oo := oo.trans ((Only.wr ehh16).mono (by decide))
                  have sn := jj.1.add ehh16 (by omega) (by rw [n2517, n2518, n2519]; omega) (fun q => by rw [n2517]; exact ls2 q)
                  refine hd_aload pkX19_row rfl rfl (Int.natCast_nonneg _) ?_
                  refine hd_ipush (z := 0) pkX19_row rfl ?_
                  refine hd_putZ pkX19_row rfl (ghh16.cell 0 rfl).1 (ghh16.cell 0 rfl).2.1 (by omega) (fun hh17 ehh17 => ?_)
                  have ghh17 : Str t19 r19 hh17 := by rw [ehh17]; exact ghh16.setF rfl
                  have oo := oo.trans ((Only.wr ehh17).mono (by decide))
                  have sn := sn.one ehh17 (by decide) (by decide)
                  have e6 : ga hh17 2514 6 = 0 := (ga_wr ehh17 (by decide) (by decide)).trans (if_pos rfl)
                  refine hd_aload pkX19_row rfl rfl (Int.natCast_nonneg _) ?_
                  refine hd_callV pkX19_row rfl (q := (KX19_forget, yX19_forget, 19, 0, 0)) rfl rfl rfl (As := []) (rest := []) (c := 2514) rfl rfl (Nat.le_of_ble_eq_true rfl) (ghh17.cell 0 rfl).1 (ghh17.cell 0 rfl).2.1 (h_X19_forget ghh17) (hd_bV (fun hc18 pf => ?_))
                  have ghc18 : Str t19 r19 hc18 := pf.2.2.2.2
                  have oo := oo.trans (pf.1.mono (by decide))
                  have jN : J19 hc18 (cn + 1) := J19.none (sn.fg pf.1 pf.2.1 pf.2.2.1 pf.2.2.2.1) ((pf.2.1 6 (by decide) (by decide) (by decide)).trans e6) pf.2.2.1
                  refine hd_ipush (z := 1) pkX19_row rfl ?_
                  refine hd_zret pkX19_row rfl (by omega) ?_
                  subst eQ
                  exact ⟨rfl, rfl, Or.inr rfl, oo, ⟨_, jN⟩, ghc18⟩
                · skip
                  refine cut42 trivial
        refine hd_aload pkX19_row rfl rfl (Int.natCast_nonneg _) ?_
        refine hd_getI pkX19_row rfl (g.cell 0 rfl).1 (g.cell 0 rfl).2.1 (fun v19 ev19 rv19 => ?_)
        have qv19 : cn = v19 := by rw [ev19]; exact jj.1.1.1.symm
        subst qv19
        refine hd_if_le pkX19_row rfl (fun c20 => ?_) (fun c20 => ?_)
        · skip
          refine cut26 trivial ?_
          · omega
        · skip
          refine hd_lload pkX19_row rfl rfl ?_
          refine hd_aload pkX19_row rfl rfl (Int.natCast_nonneg _) ?_
          refine hd_getR (n := 2517) pkX19_row rfl (g.cell 0 rfl).1 (g.cell 0 rfl).2.1 (g.ref 2 rfl) ?_
          refine hd_aload pkX19_row rfl rfl (Int.natCast_nonneg _) ?_
          refine hd_getI pkX19_row rfl (g.cell 0 rfl).1 (g.cell 0 rfl).2.1 (fun v21 ev21 rv21 => ?_)
          have qv21 : cn = v21 := by rw [ev21]; exact jj.1.1.1.symm
          subst qv21
          refine hd_ipush (z := 1) pkX19_row rfl ?_
          refine hd_isub pkX19_row rfl (by omega) ?_
          refine hd_iald (n := 14) pkX19_row rfl (g.cell 3 rfl) (by omega) (by omega) (fun v22 ev22 rv22 => ?_)
          have la9 : v22 = ga h 2517 (cn - 1) := ev22
          refine hd_i2l pkX19_row rfl ?_
          refine hd_lc_le pkX19_row rfl (fun c23 => ?_) (fun c23 => ?_)
          · skip
            refine cut42 trivial
          · skip
            refine cut26 trivial ?_
            · omega
set_option maxRecDepth 20000 in
set_option maxHeartbeats 8000000 in
theorem h_X19_clearRow {h : MH} {cn : Int} (j19 : J19 h cn) (g : Str t19 r19 h) : MCal KX19_clearRow yX19_clearRow 0 0 [(2, ((2514 : Nat) : Int))] h (mRV fun h' => Only C19 h h' ∧ J19 h' 0 ∧ Str t19 r19 h') := by
  refine MCal.ofMW (Or.inl rfl) ⟨cp_X19, rfl⟩ (Nat.le_of_ble_eq_true rfl) ?_
  generalize eQ : (mRV fun h' => Only C19 h h' ∧ J19 h' 0 ∧ Str t19 r19 h' : MO → MH → Prop) = Q
  change MW KX19_clearRow Q 0 0 (pcA pgX19_clearRow 0) [(0, (2, ((2514 : Nat) : Int)))] [] h
  have oo : Only C19 h h := Only.refl _ _
  have jj := j19
  have cb := j19.1.1.2.1
  refine hd_aload pkX19_clearRow rfl rfl (Int.natCast_nonneg _) ?_
  refine hd_ipush (z := 0) pkX19_clearRow rfl ?_
  refine hd_putI pkX19_clearRow rfl (g.cell 0 rfl).1 (g.cell 0 rfl).2.1 (fun hh1 ehh1 => ?_)
  have ghh1 : Str t19 r19 hh1 := by rw [ehh1]; exact g.setF rfl
  have oo := oo.trans ((Only.wr ehh1).mono (by decide))
  have sn := jj.1.c0 ehh1
  refine hd_aload pkX19_clearRow rfl rfl (Int.natCast_nonneg _) ?_
  refine hd_ipush (z := 0) pkX19_clearRow rfl ?_
  refine hd_putZ pkX19_clearRow rfl (ghh1.cell 0 rfl).1 (ghh1.cell 0 rfl).2.1 (by omega) (fun hh2 ehh2 => ?_)
  have ghh2 : Str t19 r19 hh2 := by rw [ehh2]; exact ghh1.setF rfl
  have oo := oo.trans ((Only.wr ehh2).mono (by decide))
  have sn := sn.one ehh2 (by decide) (by decide)
  have e6 : ga hh2 2514 6 = 0 := (ga_wr ehh2 (by decide) (by decide)).trans (if_pos rfl)
  refine hd_aload pkX19_clearRow rfl rfl (Int.natCast_nonneg _) ?_
  refine hd_lpush (z := 0) pkX19_clearRow rfl ?_
  refine hd_putJ pkX19_clearRow rfl (ghh2.cell 0 rfl).1 (ghh2.cell 0 rfl).2.1 (fun hh3 ehh3 => ?_)
  have ghh3 : Str t19 r19 hh3 := by rw [ehh3]; exact ghh2.setF rfl
  have oo := oo.trans ((Only.wr ehh3).mono (by decide))
  have sn := sn.one ehh3 (by decide) (by decide)
  have e6 : ga hh3 2514 6 = 0 := ((ga_wr ehh3 (by decide) (by decide)).trans (if_neg (by decide))).trans e6
  refine hd_aload pkX19_clearRow rfl rfl (Int.natCast_nonneg _) ?_
  refine hd_callV pkX19_clearRow rfl (q := (KX19_forget, yX19_forget, 19, 0, 0)) rfl rfl rfl (As := []) (rest := []) (c := 2514) rfl rfl (Nat.le_of_ble_eq_true rfl) (ghh3.cell 0 rfl).1 (ghh3.cell 0 rfl).2.1 (h_X19_forget ghh3) (hd_bV (fun hc4 pf => ?_))
  have ghc4 : Str t19 r19 hc4 := pf.2.2.2.2
  have oo := oo.trans (pf.1.mono (by decide))
  have jN : J19 hc4 0 := J19.none (sn.fg pf.1 pf.2.1 pf.2.2.1 pf.2.2.2.1) ((pf.2.1 6 (by decide) (by decide) (by decide)).trans e6) pf.2.2.1
  refine hd_vret pkX19_clearRow rfl ?_
  subst eQ
  exact ⟨rfl, oo, jN, ghc4⟩
set_option maxRecDepth 20000 in
set_option maxHeartbeats 8000000 in
theorem h_X19_lane {h : MH} {a b cn : Int} (j19 : J19 h cn) (g : Str t19 r19 h) : MCal KX19_lane yX19_lane 0 0 [(2, ((2514 : Nat) : Int)), (1, a), (1, b)] h (mRI fun v h' => (-1 ≤ v ∧ v ≤ 3) ∧ Only C19 h h' ∧ J19 h' cn ∧ Str t19 r19 h') := by
  refine MCal.ofMW (Or.inl rfl) ⟨cp_X19, rfl⟩ (Nat.le_of_ble_eq_true rfl) ?_
  generalize eQ : (mRI fun v h' => (-1 ≤ v ∧ v ≤ 3) ∧ Only C19 h h' ∧ J19 h' cn ∧ Str t19 r19 h' : MO → MH → Prop) = Q
  change MW KX19_lane Q 0 0 (pcA pgX19_lane 0) [(0, (2, ((2514 : Nat) : Int))), (1, (1, a)), (3, (1, b))] [] h
  refine hd_locL (i := 1) rfl (fun ra => ?_)
  refine hd_locL (i := 3) rfl (fun rb => ?_)
  have oo : Only C19 h h := Only.refl _ _
  have jj := j19
  have cb := j19.1.1.2.1
  refine hd_aload pkX19_lane rfl rfl (Int.natCast_nonneg _) ?_
  refine hd_getI pkX19_lane rfl (g.cell 0 rfl).1 (g.cell 0 rfl).2.1 (fun v1 ev1 rv1 => ?_)
  obtain ⟨ln, qv1⟩ : ∃ x : Int, x = v1 := ⟨_, rfl⟩
  have el : ga h 2514 21 = ln := by rw [qv1, ev1]; rfl
  have l4 := jj.1.2.2.1.1
  rw [el] at l4
  subst qv1
  have cut20 : ∀ (_ : True), MW KX19_lane Q 0 0 (pcA pgX19_lane 20) [(0, (2, ((2514 : Nat) : Int))), (1, (1, a)), (3, (1, b))] [] h := by
    intro _
    refine hd_ipush (z := (-1)) pkX19_lane rfl ?_
    refine hd_iret pkX19_lane rfl ?_
    subst eQ
    refine ⟨rfl, rfl, ?_, oo, jj, g⟩
    show -1 ≤ ((-1) : Int) ∧ ((-1) : Int) ≤ 3
    omega
  refine hd_ipush (z := 4) pkX19_lane rfl ?_
  refine hd_ic_eq pkX19_lane rfl (fun c2 => ?_) (fun c2 => ?_)
  · skip
    refine cut20 trivial
  · skip
    refine hd_lload pkX19_lane rfl rfl ?_
    refine hd_lpush (z := 1) pkX19_lane rfl ?_
    refine hd_lc_lt pkX19_lane rfl (fun c3 => ?_) (fun c3 => ?_)
    · skip
      refine cut20 trivial
    · skip
      refine hd_lload pkX19_lane rfl rfl ?_
      refine hd_lpush (z := 1000) pkX19_lane rfl ?_
      refine hd_lc_gt pkX19_lane rfl (fun c4 => ?_) (fun c4 => ?_)
      · skip
        refine cut20 trivial
      · skip
        refine hd_lload pkX19_lane rfl rfl ?_
        refine hd_lpush (z := 0) pkX19_lane rfl ?_
        refine hd_lc_lt pkX19_lane rfl (fun c5 => ?_) (fun c5 => ?_)
        · skip
          refine cut20 trivial
        · skip
          refine hd_lload pkX19_lane rfl rfl ?_
          refine hd_lload pkX19_lane rfl rfl ?_
          refine hd_lc_le pkX19_lane rfl (fun c6 => ?_) (fun c6 => ?_)
          · skip
            refine hd_aload pkX19_lane rfl rfl (Int.natCast_nonneg _) ?_
            refine hd_getR (n := 2525) pkX19_lane rfl (g.cell 0 rfl).1 (g.cell 0 rfl).2.1 (g.ref 10 rfl) ?_
            refine hd_aload pkX19_lane rfl rfl (Int.natCast_nonneg _) ?_
            refine hd_getI pkX19_lane rfl (g.cell 0 rfl).1 (g.cell 0 rfl).2.1 (fun v7 ev7 rv7 => ?_)
            have qv7 : ln = v7 := by rw [ev7]; exact el.symm
            subst qv7
            refine hd_lload pkX19_lane rfl rfl ?_
            refine hd_last (n := 4) pkX19_lane rfl (g.cell 11 rfl) (by decide) (by omega) (by omega) (fun hh8 ehh8 => ?_)
            have ghh8 : Str t19 r19 hh8 := by rw [ehh8]; exact g.setA rfl
            have oo := oo.trans ((Only.wr ehh8).mono (by decide))
            have jj := jj.lw ehh8 el (by decide)
            have n2525 : ga hh8 2525 ln = a := (ga_wr ehh8 (by omega) (by omega)).trans (if_pos rfl)
            have el := ((Only.wr ehh8).ga (d := 2514) (by decide) _).trans el
            refine hd_aload pkX19_lane rfl rfl (Int.natCast_nonneg _) ?_
            refine hd_getR (n := 2526) pkX19_lane rfl (ghh8.cell 0 rfl).1 (ghh8.cell 0 rfl).2.1 (ghh8.ref 11 rfl) ?_
            refine hd_aload pkX19_lane rfl rfl (Int.natCast_nonneg _) ?_
            refine hd_getI pkX19_lane rfl (ghh8.cell 0 rfl).1 (ghh8.cell 0 rfl).2.1 (fun v9 ev9 rv9 => ?_)
            have qv9 : ln = v9 := by rw [ev9]; exact el.symm
            subst qv9
            refine hd_lload pkX19_lane rfl rfl ?_
            refine hd_last (n := 4) pkX19_lane rfl (ghh8.cell 12 rfl) (by decide) (by omega) (by omega) (fun hh10 ehh10 => ?_)
            have ghh10 : Str t19 r19 hh10 := by rw [ehh10]; exact ghh8.setA rfl
            have oo := oo.trans ((Only.wr ehh10).mono (by decide))
            have jj := jj.lw ehh10 el (by decide)
            have n2526 : ga hh10 2526 ln = b := (ga_wr ehh10 (by omega) (by omega)).trans (if_pos rfl)
            have n2525 := ((Only.wr ehh10).ga (d := 2525) (by decide) _).trans n2525
            have el := ((Only.wr ehh10).ga (d := 2514) (by decide) _).trans el
            refine hd_aload pkX19_lane rfl rfl (Int.natCast_nonneg _) ?_
            refine hd_dup pkX19_lane rfl rfl ?_
            refine hd_getI pkX19_lane rfl (ghh10.cell 0 rfl).1 (ghh10.cell 0 rfl).2.1 (fun v11 ev11 rv11 => ?_)
            have qv11 : ln = v11 := by rw [ev11]; exact el.symm
            subst qv11
            refine hd_ipush (z := 1) pkX19_lane rfl ?_
            refine hd_iadd pkX19_lane rfl (by omega) ?_
            refine hd_putI pkX19_lane rfl (ghh10.cell 0 rfl).1 (ghh10.cell 0 rfl).2.1 (fun hh12 ehh12 => ?_)
            have ghh12 : Str t19 r19 hh12 := by rw [ehh12]; exact ghh10.setF rfl
            have oo := oo.trans ((Only.wr ehh12).mono (by decide))
            have jj := jj.la ehh12 el (by omega) (by rw [n2525]; omega) (by rw [n2526]; omega)
            have el : ga hh12 2514 21 = ln + 1 := (ga_wr ehh12 (by decide) (by decide)).trans (if_pos rfl)
            refine hd_aload pkX19_lane rfl rfl (Int.natCast_nonneg _) ?_
            refine hd_getI pkX19_lane rfl (ghh12.cell 0 rfl).1 (ghh12.cell 0 rfl).2.1 (fun v13 ev13 rv13 => ?_)
            have qv13 : (ln + 1) = v13 := by rw [ev13]; exact el.symm
            subst qv13
            refine hd_ipush (z := 1) pkX19_lane rfl ?_
            refine hd_isub pkX19_lane rfl (by omega) ?_
            refine hd_iret pkX19_lane rfl ?_
            subst eQ
            refine ⟨rfl, rfl, ?_, oo, jj, ghh12⟩
            show -1 ≤ (((ln + 1) - 1) : Int) ∧ (((ln + 1) - 1) : Int) ≤ 3
            omega
          · skip
            refine cut20 trivial
set_option maxRecDepth 20000 in
set_option maxHeartbeats 8000000 in
theorem h_X19_train {h : MH} {cn : Int} (j19 : J19 h cn) (g : Str t19 r19 h) : MCal KX19_train yX19_train 0 0 [(2, ((2514 : Nat) : Int))] h (mRI fun v h' => (-1 ≤ v ∧ v ≤ 5) ∧ Only C19 h h' ∧ J19 h' cn ∧ Str t19 r19 h') := by
  refine MCal.ofMW (Or.inl rfl) ⟨cp_X19, rfl⟩ (Nat.le_of_ble_eq_true rfl) ?_
  generalize eQ : (mRI fun v h' => (-1 ≤ v ∧ v ≤ 5) ∧ Only C19 h h' ∧ J19 h' cn ∧ Str t19 r19 h' : MO → MH → Prop) = Q
  change MW KX19_train Q 0 0 (pcA pgX19_train 0) [(0, (2, ((2514 : Nat) : Int)))] [] h
  have oo : Only C19 h h := Only.refl _ _
  have jj := j19
  have cb := j19.1.1.2.1
  refine hd_aload pkX19_train rfl rfl (Int.natCast_nonneg _) ?_
  refine hd_getI pkX19_train rfl (g.cell 0 rfl).1 (g.cell 0 rfl).2.1 (fun v1 ev1 rv1 => ?_)
  obtain ⟨tn, qv1⟩ : ∃ x : Int, x = v1 := ⟨_, rfl⟩
  have et : ga h 2514 7 = tn := by rw [qv1, ev1]; rfl
  have t6 := jj.1.2.1.1
  rw [et] at t6
  subst qv1
  refine hd_ipush (z := 6) pkX19_train rfl ?_
  refine hd_ic_ne pkX19_train rfl (fun c2 => ?_) (fun c2 => ?_)
  · skip
    refine hd_aload pkX19_train rfl rfl (Int.natCast_nonneg _) ?_
    refine hd_getR (n := 2520) pkX19_train rfl (g.cell 0 rfl).1 (g.cell 0 rfl).2.1 (g.ref 5 rfl) ?_
    refine hd_aload pkX19_train rfl rfl (Int.natCast_nonneg _) ?_
    refine hd_getI pkX19_train rfl (g.cell 0 rfl).1 (g.cell 0 rfl).2.1 (fun v3 ev3 rv3 => ?_)
    have qv3 : tn = v3 := by rw [ev3]; exact et.symm
    subst qv3
    refine hd_ipush (z := 0) pkX19_train rfl ?_
    refine hd_iast (n := 6) pkX19_train rfl (g.cell 6 rfl) (by decide) (by omega) (by omega) (fun hh4 ehh4 => ?_)
    have ghh4 : Str t19 r19 hh4 := by rw [ehh4]; exact g.setA rfl
    have oo := oo.trans ((Only.wr ehh4).mono (by decide))
    have jj := jj.t0 ⟨by omega, by omega⟩ ehh4
    have et := ((Only.wr ehh4).ga (d := 2514) (by decide) _).trans et
    refine hd_aload pkX19_train rfl rfl (Int.natCast_nonneg _) ?_
    refine hd_dup pkX19_train rfl rfl ?_
    refine hd_getI pkX19_train rfl (ghh4.cell 0 rfl).1 (ghh4.cell 0 rfl).2.1 (fun v5 ev5 rv5 => ?_)
    have qv5 : tn = v5 := by rw [ev5]; exact et.symm
    subst qv5
    refine hd_ipush (z := 1) pkX19_train rfl ?_
    refine hd_iadd pkX19_train rfl (by omega) ?_
    refine hd_putI pkX19_train rfl (ghh4.cell 0 rfl).1 (ghh4.cell 0 rfl).2.1 (fun hh6 ehh6 => ?_)
    have ghh6 : Str t19 r19 hh6 := by rw [ehh6]; exact ghh4.setF rfl
    have oo := oo.trans ((Only.wr ehh6).mono (by decide))
    have jj := jj.tn ehh6 et (by omega)
    have et : ga hh6 2514 7 = tn + 1 := (ga_wr ehh6 (by decide) (by decide)).trans (if_pos rfl)
    refine hd_aload pkX19_train rfl rfl (Int.natCast_nonneg _) ?_
    refine hd_getI pkX19_train rfl (ghh6.cell 0 rfl).1 (ghh6.cell 0 rfl).2.1 (fun v7 ev7 rv7 => ?_)
    have qv7 : (tn + 1) = v7 := by rw [ev7]; exact et.symm
    subst qv7
    refine hd_ipush (z := 1) pkX19_train rfl ?_
    refine hd_isub pkX19_train rfl (by omega) ?_
    refine hd_iret pkX19_train rfl ?_
    subst eQ
    refine ⟨rfl, rfl, ?_, oo, jj, ghh6⟩
    show -1 ≤ (((tn + 1) - 1) : Int) ∧ (((tn + 1) - 1) : Int) ≤ 5
    omega
  · skip
    refine hd_ipush (z := (-1)) pkX19_train rfl ?_
    refine hd_iret pkX19_train rfl ?_
    subst eQ
    refine ⟨rfl, rfl, ?_, oo, jj, g⟩
    show -1 ≤ ((-1) : Int) ∧ ((-1) : Int) ≤ 5
    omega
set_option maxRecDepth 20000 in
set_option maxHeartbeats 8000000 in
theorem h_X19_axle {h : MH} {t fa lo9 cn : Int} (j19 : J19 h cn) (g : Str t19 r19 h) : MCal KX19_axle yX19_axle 0 0 [(2, ((2514 : Nat) : Int)), (0, t), (1, fa), (1, lo9)] h (mRI fun v h' => (v = 0 ∨ v = 1) ∧ Only C19 h h' ∧ J19 h' cn ∧ Str t19 r19 h') := by
  refine MCal.ofMW (Or.inl rfl) ⟨cp_X19, rfl⟩ (Nat.le_of_ble_eq_true rfl) ?_
  generalize eQ : (mRI fun v h' => (v = 0 ∨ v = 1) ∧ Only C19 h h' ∧ J19 h' cn ∧ Str t19 r19 h' : MO → MH → Prop) = Q
  change MW KX19_axle Q 0 0 (pcA pgX19_axle 0) [(0, (2, ((2514 : Nat) : Int))), (1, (0, t)), (2, (1, fa)), (4, (1, lo9))] [] h
  refine hd_locI (i := 1) rfl (fun rt => ?_)
  refine hd_locL (i := 2) rfl (fun rfa => ?_)
  refine hd_locL (i := 4) rfl (fun rlo9 => ?_)
  have oo : Only C19 h h := Only.refl _ _
  have jj := j19
  have cb := j19.1.1.2.1
  have t6 := j19.1.2.1.1
  refine hd_aload pkX19_axle rfl rfl (Int.natCast_nonneg _) ?_
  have cut36 : ∀ (_ : True), MW KX19_axle Q 0 0 (pcA pgX19_axle 36) [(0, (2, ((2514 : Nat) : Int))), (1, (0, t)), (2, (1, fa)), (4, (1, lo9))] [] h := by
    intro _
    refine hd_ipush (z := 0) pkX19_axle rfl ?_
    refine hd_zret pkX19_axle rfl (by omega) ?_
    subst eQ
    exact ⟨rfl, rfl, Or.inl rfl, oo, jj, g⟩
  refine hd_iload pkX19_axle rfl rfl ?_
  refine hd_callV pkX19_axle rfl (q := (KX19_noTrain, yX19_noTrain, 19, 1, 0)) rfl rfl rfl (As := [(0, t)]) (rest := []) (c := 2514) rfl rfl (Nat.le_of_ble_eq_true rfl) (g.cell 0 rfl).1 (g.cell 0 rfl).2.1 (h_X19_noTrain (tn := ga h 2514 7) rfl g) (hd_bI (fun nt hc1 pn => ?_))
  obtain ⟨pn, ehc1⟩ := pn
  replace ehc1 := ehc1.symm
  subst ehc1
  refine hd_if_ne pkX19_axle rfl (fun c2 => ?_) (fun c2 => ?_)
  · skip
    refine cut36 trivial
  · skip
    refine hd_lload pkX19_axle rfl rfl ?_
    refine hd_lpush (z := 0) pkX19_axle rfl ?_
    refine hd_lc_lt pkX19_axle rfl (fun c3 => ?_) (fun c3 => ?_)
    · skip
      refine cut36 trivial
    · skip
      refine hd_lload pkX19_axle rfl rfl ?_
      refine hd_lpush (z := 1000000) pkX19_axle rfl ?_
      refine hd_lc_gt pkX19_axle rfl (fun c4 => ?_) (fun c4 => ?_)
      · skip
        refine cut36 trivial
      · skip
        refine hd_aload pkX19_axle rfl rfl (Int.natCast_nonneg _) ?_
        refine hd_getR (n := 2520) pkX19_axle rfl (g.cell 0 rfl).1 (g.cell 0 rfl).2.1 (g.ref 5 rfl) ?_
        refine hd_iload pkX19_axle rfl rfl ?_
        refine hd_iald (n := 6) pkX19_axle rfl (g.cell 6 rfl) (by omega) (by omega) (fun v5 ev5 rv5 => ?_)
        obtain ⟨ax, qv5⟩ : ∃ x : Int, x = v5 := ⟨_, rfl⟩
        have ea : ga h 2520 t = ax := by rw [qv5, ev5]
        have a5 := (jj.1.2.1.2 t (by omega) (by omega)).1
        rw [ea] at a5
        subst qv5
        refine hd_ipush (z := 5) pkX19_axle rfl ?_
        refine hd_ic_eq pkX19_axle rfl (fun c6 => ?_) (fun c6 => ?_)
        · skip
          refine cut36 trivial
        · skip
          have cut38 : ∀ (_ : True), ((ax = 0 ∧ fa = 0) ∨ (0 < ax ∧ 1 ≤ fa ∧ fa ≤ 60)) → MW KX19_axle Q 0 0 (pcA pgX19_axle 38) [(0, (2, ((2514 : Nat) : Int))), (1, (0, t)), (2, (1, fa)), (4, (1, lo9))] [] h := by
            intro _ fr
            refine hd_ipush (z := 5) pkX19_axle rfl ?_
            refine hd_iload pkX19_axle rfl rfl ?_
            refine hd_imul pkX19_axle rfl (by omega) ?_
            refine hd_aload pkX19_axle rfl rfl (Int.natCast_nonneg _) ?_
            refine hd_getR (n := 2520) pkX19_axle rfl (g.cell 0 rfl).1 (g.cell 0 rfl).2.1 (g.ref 5 rfl) ?_
            refine hd_iload pkX19_axle rfl rfl ?_
            refine hd_iald (n := 6) pkX19_axle rfl (g.cell 6 rfl) (by omega) (by omega) (fun v7 ev7 rv7 => ?_)
            have qv7 : ax = v7 := by rw [ev7]; exact ea.symm
            subst qv7
            refine hd_iadd pkX19_axle rfl (by omega) ?_
            refine hd_istore pkX19_axle rfl rfl ?_
            change MW _ _ _ _ _ [(6, (0, ((5 * t) + ax))), (0, (2, ((2514 : Nat) : Int))), (1, (0, t)), (2, (1, fa)), (4, (1, lo9))] _ _
            refine hd_aload pkX19_axle rfl rfl (Int.natCast_nonneg _) ?_
            refine hd_getR (n := 2521) pkX19_axle rfl (g.cell 0 rfl).1 (g.cell 0 rfl).2.1 (g.ref 6 rfl) ?_
            refine hd_iload pkX19_axle rfl rfl ?_
            refine hd_lload pkX19_axle rfl rfl ?_
            refine hd_l2i pkX19_axle rfl (by omega) ?_
            have cut65 : ∀ (bp : Int), ((ax = 0 ∧ bp = 0) ∨ (0 < ax ∧ 0 ≤ bp ∧ bp ≤ 60 * (ax - 1))) → MW KX19_axle Q 0 0 (pcA pgX19_axle 65) [(0, (2, ((2514 : Nat) : Int))), (1, (0, t)), (2, (1, fa)), (4, (1, lo9)), (6, (0, ((5 * t) + ax)))] [(0, bp), (0, fa), (0, ((5 * t) + ax)), (2, ((2521 : Nat) : Int))] h := by
              intro bp bpv
              refine hd_iadd pkX19_axle rfl (by omega) ?_
              refine hd_iast (n := 30) pkX19_axle rfl (g.cell 7 rfl) (by decide) (by omega) (by omega) (fun hh8 ehh8 => ?_)
              have ghh8 : Str t19 r19 hh8 := by rw [ehh8]; exact g.setA rfl
              have oo := oo.trans ((Only.wr ehh8).mono (by decide))
              have jj := jj.tw ⟨by omega, by omega⟩ ea (by omega) ehh8 (by decide)
              have n2521 : ga hh8 2521 (5 * t + ax) = (fa + bp) := (ga_wr ehh8 (by omega) (by omega)).trans (if_pos rfl)
              have ea := ((Only.wr ehh8).ga (d := 2520) (by decide) _).trans ea
              refine hd_aload pkX19_axle rfl rfl (Int.natCast_nonneg _) ?_
              refine hd_getR (n := 2522) pkX19_axle rfl (ghh8.cell 0 rfl).1 (ghh8.cell 0 rfl).2.1 (ghh8.ref 7 rfl) ?_
              refine hd_iload pkX19_axle rfl rfl ?_
              refine hd_lload pkX19_axle rfl rfl ?_
              refine hd_l2i pkX19_axle rfl (by omega) ?_
              refine hd_iast (n := 30) pkX19_axle rfl (ghh8.cell 8 rfl) (by decide) (by omega) (by omega) (fun hh9 ehh9 => ?_)
              have ghh9 : Str t19 r19 hh9 := by rw [ehh9]; exact ghh8.setA rfl
              have oo := oo.trans ((Only.wr ehh9).mono (by decide))
              have jj := jj.tw ⟨by omega, by omega⟩ ea (by omega) ehh9 (by decide)
              have n2522 : ga hh9 2522 (5 * t + ax) = lo9 := (ga_wr ehh9 (by omega) (by omega)).trans (if_pos rfl)
              have n2521 := ((Only.wr ehh9).ga (d := 2521) (by decide) _).trans n2521
              have ea := ((Only.wr ehh9).ga (d := 2520) (by decide) _).trans ea
              refine hd_aload pkX19_axle rfl rfl (Int.natCast_nonneg _) ?_
              refine hd_getR (n := 2520) pkX19_axle rfl (ghh9.cell 0 rfl).1 (ghh9.cell 0 rfl).2.1 (ghh9.ref 5 rfl) ?_
              refine hd_iload pkX19_axle rfl rfl ?_
              refine hd_dup2 pkX19_axle rfl rfl rfl ?_
              refine hd_iald (n := 6) pkX19_axle rfl (ghh9.cell 6 rfl) (by omega) (by omega) (fun v10 ev10 rv10 => ?_)
              have qv10 : ax = v10 := by rw [ev10]; exact ea.symm
              subst qv10
              refine hd_ipush (z := 1) pkX19_axle rfl ?_
              refine hd_iadd pkX19_axle rfl (by omega) ?_
              refine hd_iast (n := 6) pkX19_axle rfl (ghh9.cell 6 rfl) (by decide) (by omega) (by omega) (fun hh11 ehh11 => ?_)
              have ghh11 : Str t19 r19 hh11 := by rw [ehh11]; exact ghh9.setA rfl
              have oo := oo.trans ((Only.wr ehh11).mono (by decide))
              have jj := jj.ta ⟨by omega, by omega⟩ ea (by omega) ehh11 (by rw [n2521]; omega) (by rw [n2522]; omega)
              refine hd_aload pkX19_axle rfl rfl (Int.natCast_nonneg _) ?_
              refine hd_callV pkX19_axle rfl (q := (KX19_forget, yX19_forget, 19, 0, 0)) rfl rfl rfl (As := []) (rest := []) (c := 2514) rfl rfl (Nat.le_of_ble_eq_true rfl) (ghh11.cell 0 rfl).1 (ghh11.cell 0 rfl).2.1 (h_X19_forget ghh11) (hd_bV (fun hc12 pf => ?_))
              have ghc12 : Str t19 r19 hc12 := pf.2.2.2.2
              have oo := oo.trans (pf.1.mono (by decide))
              have jj := jj.fg pf.1 pf.2.1 pf.2.2.1 pf.2.2.2.1
              refine hd_ipush (z := 1) pkX19_axle rfl ?_
              refine hd_zret pkX19_axle rfl (by omega) ?_
              subst eQ
              exact ⟨rfl, rfl, Or.inr rfl, oo, jj, ghc12⟩
            refine hd_aload pkX19_axle rfl rfl (Int.natCast_nonneg _) ?_
            refine hd_getR (n := 2520) pkX19_axle rfl (g.cell 0 rfl).1 (g.cell 0 rfl).2.1 (g.ref 5 rfl) ?_
            refine hd_iload pkX19_axle rfl rfl ?_
            refine hd_iald (n := 6) pkX19_axle rfl (g.cell 6 rfl) (by omega) (by omega) (fun v13 ev13 rv13 => ?_)
            have qv13 : ax = v13 := by rw [ev13]; exact ea.symm
            subst qv13
            refine hd_if_ne pkX19_axle rfl (fun c14 => ?_) (fun c14 => ?_)
            · skip
              refine hd_aload pkX19_axle rfl rfl (Int.natCast_nonneg _) ?_
              refine hd_getR (n := 2521) pkX19_axle rfl (g.cell 0 rfl).1 (g.cell 0 rfl).2.1 (g.ref 6 rfl) ?_
              refine hd_iload pkX19_axle rfl rfl ?_
              refine hd_ipush (z := 1) pkX19_axle rfl ?_
              refine hd_isub pkX19_axle rfl (by omega) ?_
              refine hd_iald (n := 30) pkX19_axle rfl (g.cell 7 rfl) (by omega) (by omega) (fun v15 ev15 rv15 => ?_)
              have bb9 : 0 ≤ v15 ∧ v15 ≤ 60 * (ax - 1) := by
                rw [ev15]
                have q := (jj.1.2.1.2 t (by omega) (by omega)).2.2.2 (ax - 1) (by omega) (by rw [ea]; omega)
                rw [show 5 * t + (ax - 1) = 5 * t + ax - 1 by omega] at q
                exact q.1
              refine m_sub [(0, (2, ((2514 : Nat) : Int))), (1, (0, t)), (2, (1, fa)), (4, (1, lo9)), (6, (0, ((5 * t) + ax)))] (List.forall_mem_cons.mpr ⟨rfl, List.forall_mem_cons.mpr ⟨rfl, List.forall_mem_cons.mpr ⟨rfl, List.forall_mem_cons.mpr ⟨rfl, List.forall_mem_cons.mpr ⟨rfl, fun _ h => absurd h List.not_mem_nil⟩⟩⟩⟩⟩) ?_
              refine cut65 (v15) ?_
              · omega
            · skip
              refine hd_ipush (z := 0) pkX19_axle rfl ?_
              refine hd_goto pkX19_axle rfl ?_
              refine m_sub [(0, (2, ((2514 : Nat) : Int))), (1, (0, t)), (2, (1, fa)), (4, (1, lo9)), (6, (0, ((5 * t) + ax)))] (List.forall_mem_cons.mpr ⟨rfl, List.forall_mem_cons.mpr ⟨rfl, List.forall_mem_cons.mpr ⟨rfl, List.forall_mem_cons.mpr ⟨rfl, List.forall_mem_cons.mpr ⟨rfl, fun _ h => absurd h List.not_mem_nil⟩⟩⟩⟩⟩) ?_
              refine cut65 (0) ?_
              · omega
          refine hd_aload pkX19_axle rfl rfl (Int.natCast_nonneg _) ?_
          refine hd_getR (n := 2520) pkX19_axle rfl (g.cell 0 rfl).1 (g.cell 0 rfl).2.1 (g.ref 5 rfl) ?_
          refine hd_iload pkX19_axle rfl rfl ?_
          refine hd_iald (n := 6) pkX19_axle rfl (g.cell 6 rfl) (by omega) (by omega) (fun v16 ev16 rv16 => ?_)
          have qv16 : ax = v16 := by rw [ev16]; exact ea.symm
          subst qv16
          refine hd_if_ne pkX19_axle rfl (fun c17 => ?_) (fun c17 => ?_)
          · skip
            refine hd_lload pkX19_axle rfl rfl ?_
            refine hd_lpush (z := 1) pkX19_axle rfl ?_
            refine hd_lc_lt pkX19_axle rfl (fun c18 => ?_) (fun c18 => ?_)
            · skip
              refine cut36 trivial
            · skip
              refine hd_lload pkX19_axle rfl rfl ?_
              refine hd_lpush (z := 60) pkX19_axle rfl ?_
              refine hd_lc_le pkX19_axle rfl (fun c19 => ?_) (fun c19 => ?_)
              · skip
                refine cut38 trivial ?_
                · omega
              · skip
                refine cut36 trivial
          · skip
            refine hd_lload pkX19_axle rfl rfl ?_
            refine hd_lpush (z := 0) pkX19_axle rfl ?_
            refine hd_lc_eq pkX19_axle rfl (fun c20 => ?_) (fun c20 => ?_)
            · skip
              refine cut38 trivial ?_
              · omega
            · skip
              refine hd_goto pkX19_axle rfl ?_
              refine cut36 trivial
