set_option maxRecDepth 20000 in
set_option maxHeartbeats 8000000 in
theorem h_X19_none {h : MH} {a : Int} (g : Str t19 r19 h) : MCal KX19_none yX19_none 0 0 [(0, a)] h (mRL fun v h' => v = (if a = -1 then -2 else -1) ∧ h' = h) := by
  refine MCal.ofMW (Or.inl rfl) ⟨cp_X19, rfl⟩ (Nat.le_of_ble_eq_true rfl) ?_
  generalize eQ : (mRL fun v h' => v = (if a = -1 then -2 else -1) ∧ h' = h : MO → MH → Prop) = Q
  change MW KX19_none Q 0 0 (pcA pgX19_none 0) [(0, (0, a))] [] h
  refine hd_locI (i := 0) rfl (fun ra => ?_)
  refine hd_iload pkX19_none rfl rfl ?_
  refine hd_ipush (z := (-1)) pkX19_none rfl ?_
  refine hd_ic_ne pkX19_none rfl (fun c1 => ?_) (fun c1 => ?_)
  · skip
    refine hd_lpush (z := (-1)) pkX19_none rfl ?_
    refine hd_lret pkX19_none rfl ?_
    subst eQ
    refine ⟨rfl, rfl, ?_, rfl⟩
    show ((-1) : Int) = if a = -1 then -2 else -1
    rw [if_neg (by omega)]
  · skip
    refine hd_lpush (z := (-2)) pkX19_none rfl ?_
    refine hd_goto pkX19_none rfl ?_
    refine hd_lret pkX19_none rfl ?_
    subst eQ
    refine ⟨rfl, rfl, ?_, rfl⟩
    show ((-2) : Int) = if a = -1 then -2 else -1
    rw [if_pos (by omega)]
set_option maxRecDepth 20000 in
set_option maxHeartbeats 8000000 in
theorem h_X19_keep {h : MH} {t s9 bk cn : Int} (bk9 : bk = 0 ∨ bk = 1) (bq : BQ h cn) (ne : Nx h 15 28) (ht : 0 ≤ t ∧ t < ga h 2514 7) (hs : -400 ≤ s9 ∧ s9 ≤ 800) (g : Str t19 r19 h) : MCal KX19_keep yX19_keep 0 0 [(2, ((2514 : Nat) : Int)), (0, t), (0, s9), (0, bk)] h (mRV fun h' => Only [2515, 2516, 2514] h h' ∧ BQ h' cn ∧ (∀ j : Int, 0 ≤ j → j ≠ 13 → j ≠ 14 → j ≠ 15 → j ≠ 16 → j ≠ 17 → ga h' 2514 j = ga h 2514 j) ∧ ga h' 2514 13 ≠ 0 ∧ Str t19 r19 h') := by
  refine MCal.ofMW (Or.inl rfl) ⟨cp_X19, rfl⟩ (Nat.le_of_ble_eq_true rfl) ?_
  generalize eQ : (mRV fun h' => Only [2515, 2516, 2514] h h' ∧ BQ h' cn ∧ (∀ j : Int, 0 ≤ j → j ≠ 13 → j ≠ 14 → j ≠ 15 → j ≠ 16 → j ≠ 17 → ga h' 2514 j = ga h 2514 j) ∧ ga h' 2514 13 ≠ 0 ∧ Str t19 r19 h' : MO → MH → Prop) = Q
  change MW KX19_keep Q 0 0 (pcA pgX19_keep 0) [(0, (2, ((2514 : Nat) : Int))), (1, (0, t)), (2, (0, s9)), (3, (0, bk))] [] h
  refine hd_locI (i := 1) rfl (fun rt => ?_)
  refine hd_locI (i := 2) rfl (fun rs9 => ?_)
  refine hd_locI (i := 3) rfl (fun rbk => ?_)
  refine hd_aload pkX19_keep rfl rfl (Int.natCast_nonneg _) ?_
  refine hd_ipush (z := 15) pkX19_keep rfl ?_
  refine hd_ipush (z := 16) pkX19_keep rfl ?_
  obtain ⟨xE, VE, bE⟩ := ne
  refine hd_callV pkX19_keep rfl (q := (KX19_copy, yX19_copy, 19, 2, 0)) rfl rfl rfl (As := [(0, 15), (0, 16)]) (rest := []) (c := 2514) rfl rfl (Nat.le_of_ble_eq_true rfl) (g.cell 0 rfl).1 (g.cell 0 rfl).2.1 (h_X19_copy (by decide) (by decide) (by decide) (by decide) VE.1 g) (hd_bV (fun hc1 pc => ?_))
  have ghc1 : Str t19 r19 hc1 := g.only pc.1.1 (by decide)
  have sn := bq.1.only pc.1.1
  have lo := bq.2.1.keep pc.1 (by decide)
  have cv := bq.2.2.1.keep pc.1 (fun i a b => nm1 (by have := bq.1.1.2.1; omega))
  have n16 : Nx hc1 16 28 := ⟨xE, nv_copy VE pc, bE⟩
  have oA : Only [2515, 2516, 2514] h hc1 := pc.1.1.mono (by decide)
  obtain ⟨hb, ehb⟩ : ∃ x : MH, x = hc1 := ⟨_, rfl⟩
  have e6 : ga hb 2514 6 ≠ 0 := by rw [ehb, pc.1.1.ga (d := 2514) (by decide)]; exact bq.2.2.2.1
  have e7 : ga hb 2514 7 = ga h 2514 7 := by rw [ehb]; exact pc.1.1.ga (by decide) _
  have fA : ∀ j : Int, ga hb 2514 j = ga h 2514 j := fun j => by rw [ehb]; exact pc.1.1.ga (by decide) j
  rw [← ehb] at sn lo cv n16 oA
  have oW : Only [2514] hb hc1 := by rw [ehb]; exact Only.refl _ _
  have fW : ∀ j : Int, 0 ≤ j → j ≠ 13 → j ≠ 14 → j ≠ 15 → j ≠ 16 → j ≠ 17 → ga hc1 2514 j = ga hb 2514 j := fun j _ _ _ _ _ _ => by rw [ehb]
  refine hd_aload pkX19_keep rfl rfl (Int.natCast_nonneg _) ?_
  refine hd_ipush (z := 1) pkX19_keep rfl ?_
  refine hd_putZ pkX19_keep rfl (ghc1.cell 0 rfl).1 (ghc1.cell 0 rfl).2.1 (by omega) (fun hh2 ehh2 => ?_)
  have ghh2 : Str t19 r19 hh2 := by rw [ehh2]; exact ghc1.setF rfl
  have oW := oW.trans (Only.wr ehh2)
  have fW := fun (j : Int) (j0 : 0 ≤ j) (a : j ≠ 13) (b : j ≠ 14) (c : j ≠ 15) (d : j ≠ 16) (e : j ≠ 17) => ((ga_wr ehh2 (by decide) j0).trans (if_neg a)).trans (fW j j0 a b c d e)
  have v13 : ga hh2 2514 13 = 1 := (ga_wr ehh2 (by decide) (by decide)).trans (if_pos rfl)
  refine hd_aload pkX19_keep rfl rfl (Int.natCast_nonneg _) ?_
  refine hd_iload pkX19_keep rfl rfl ?_
  refine hd_putI pkX19_keep rfl (ghh2.cell 0 rfl).1 (ghh2.cell 0 rfl).2.1 (fun hh3 ehh3 => ?_)
  have ghh3 : Str t19 r19 hh3 := by rw [ehh3]; exact ghh2.setF rfl
  have oW := oW.trans (Only.wr ehh3)
  have fW := fun (j : Int) (j0 : 0 ≤ j) (a : j ≠ 13) (b : j ≠ 14) (c : j ≠ 15) (d : j ≠ 16) (e : j ≠ 17) => ((ga_wr ehh3 (by decide) j0).trans (if_neg b)).trans (fW j j0 a b c d e)
  have v13 := ((ga_wr (j := 13) ehh3 (by decide) (by decide)).trans (if_neg (by decide))).trans v13
  have v14 : ga hh3 2514 14 = t := (ga_wr ehh3 (by decide) (by decide)).trans (if_pos rfl)
  refine hd_aload pkX19_keep rfl rfl (Int.natCast_nonneg _) ?_
  refine hd_iload pkX19_keep rfl rfl ?_
  refine hd_putI pkX19_keep rfl (ghh3.cell 0 rfl).1 (ghh3.cell 0 rfl).2.1 (fun hh4 ehh4 => ?_)
  have ghh4 : Str t19 r19 hh4 := by rw [ehh4]; exact ghh3.setF rfl
  have oW := oW.trans (Only.wr ehh4)
  have fW := fun (j : Int) (j0 : 0 ≤ j) (a : j ≠ 13) (b : j ≠ 14) (c : j ≠ 15) (d : j ≠ 16) (e : j ≠ 17) => ((ga_wr ehh4 (by decide) j0).trans (if_neg c)).trans (fW j j0 a b c d e)
  have v13 := ((ga_wr (j := 13) ehh4 (by decide) (by decide)).trans (if_neg (by decide))).trans v13
  have v14 := ((ga_wr (j := 14) ehh4 (by decide) (by decide)).trans (if_neg (by decide))).trans v14
  have v15 : ga hh4 2514 15 = s9 := (ga_wr ehh4 (by decide) (by decide)).trans (if_pos rfl)
  refine hd_aload pkX19_keep rfl rfl (Int.natCast_nonneg _) ?_
  refine hd_iload pkX19_keep rfl rfl ?_
  refine hd_putZ pkX19_keep rfl (ghh4.cell 0 rfl).1 (ghh4.cell 0 rfl).2.1 (by omega) (fun hh5 ehh5 => ?_)
  have ghh5 : Str t19 r19 hh5 := by rw [ehh5]; exact ghh4.setF rfl
  have oW := oW.trans (Only.wr ehh5)
  have fW := fun (j : Int) (j0 : 0 ≤ j) (a : j ≠ 13) (b : j ≠ 14) (c : j ≠ 15) (d : j ≠ 16) (e : j ≠ 17) => ((ga_wr ehh5 (by decide) j0).trans (if_neg d)).trans (fW j j0 a b c d e)
  have v13 := ((ga_wr (j := 13) ehh5 (by decide) (by decide)).trans (if_neg (by decide))).trans v13
  have v14 := ((ga_wr (j := 14) ehh5 (by decide) (by decide)).trans (if_neg (by decide))).trans v14
  have v15 := ((ga_wr (j := 15) ehh5 (by decide) (by decide)).trans (if_neg (by decide))).trans v15
  have v16 : ga hh5 2514 16 = bk := (ga_wr ehh5 (by decide) (by decide)).trans (if_pos rfl)
  refine hd_aload pkX19_keep rfl rfl (Int.natCast_nonneg _) ?_
  refine hd_ipush (z := (-1)) pkX19_keep rfl ?_
  refine hd_putI pkX19_keep rfl (ghh5.cell 0 rfl).1 (ghh5.cell 0 rfl).2.1 (fun hh6 ehh6 => ?_)
  have ghh6 : Str t19 r19 hh6 := by rw [ehh6]; exact ghh5.setF rfl
  have oW := oW.trans (Only.wr ehh6)
  have fW := fun (j : Int) (j0 : 0 ≤ j) (a : j ≠ 13) (b : j ≠ 14) (c : j ≠ 15) (d : j ≠ 16) (e : j ≠ 17) => ((ga_wr ehh6 (by decide) j0).trans (if_neg e)).trans (fW j j0 a b c d e)
  have v13 := ((ga_wr (j := 13) ehh6 (by decide) (by decide)).trans (if_neg (by decide))).trans v13
  have v14 := ((ga_wr (j := 14) ehh6 (by decide) (by decide)).trans (if_neg (by decide))).trans v14
  have v15 := ((ga_wr (j := 15) ehh6 (by decide) (by decide)).trans (if_neg (by decide))).trans v15
  have v16 := ((ga_wr (j := 16) ehh6 (by decide) (by decide)).trans (if_neg (by decide))).trans v16
  have v17 : ga hh6 2514 17 = -1 := (ga_wr ehh6 (by decide) (by decide)).trans (if_pos rfl)
  refine hd_vret pkX19_keep rfl ?_
  subst eQ
  have f7 := fW 7 (by decide) (by decide) (by decide) (by decide) (by decide) (by decide)
  have f6 := fW 6 (by decide) (by decide) (by decide) (by decide) (by decide) (by decide)
  refine ⟨rfl, oA.trans (oW.mono (by decide)), ⟨sn.fl (oW.mono (by decide)) (fun j q => fW j (by omega) (by omega) (by omega) (by omega) (by omega) (by omega)) ⟨fun _ => by rw [v14, f7, e7]; exact ht, by rw [v15]; exact hs, by rw [v17]; decide⟩, lo.o oW (by decide), cv.o oW (by decide), by rw [f6]; exact e6, fun _ => n16.o oW (by decide)⟩, fun j j0 a b c d e => (fW j j0 a b c d e).trans (fA j), by rw [v13]; decide, ghh6⟩
set_option maxRecDepth 20000 in
set_option maxHeartbeats 8000000 in
theorem h_X19_tell {h : MH} {ef part : Int} {m : Nat} (he : ef = 15 ∨ ef = 16) (lo : LO h) (ne : Nx h ef m) (hm : m ≤ 30) (g : Str t19 r19 h) : MCal KX19_tell yX19_tell 0 0 [(2, ((2514 : Nat) : Int)), (0, ef), (0, part)] h (mRL fun v h' => Ch 140 2515 2516 [17, 18, 21, 23, 24, 25] h h' ∧ (-1 ≤ v ∧ v < 1000000000000000000) ∧ (part = 1 → v ≠ 0)) := by
  refine MCal.ofMW (Or.inl rfl) ⟨cp_X19, rfl⟩ (Nat.le_of_ble_eq_true rfl) ?_
  generalize eQ : (mRL fun v h' => Ch 140 2515 2516 [17, 18, 21, 23, 24, 25] h h' ∧ (-1 ≤ v ∧ v < 1000000000000000000) ∧ (part = 1 → v ≠ 0) : MO → MH → Prop) = Q
  change MW KX19_tell Q 0 0 (pcA pgX19_tell 0) [(0, (2, ((2514 : Nat) : Int))), (1, (0, ef)), (2, (0, part))] [] h
  refine hd_locI (i := 1) rfl (fun ref => ?_)
  refine hd_locI (i := 2) rfl (fun rpart => ?_)
  have hC : Ch 140 2515 2516 [17, 18, 21, 23, 24, 25] h h := Ch.refl _ _ _ _ _
  refine hd_aload pkX19_tell rfl rfl (Int.natCast_nonneg _) ?_
  refine hd_iload pkX19_tell rfl rfl ?_
  refine hd_ipush (z := 17) pkX19_tell rfl ?_
  obtain ⟨xE, VE, bE⟩ := ne
  obtain ⟨L, VL, L0, L1, L2⟩ := lo
  refine hd_callV pkX19_tell rfl (q := (KX19_copy, yX19_copy, 19, 2, 0)) rfl rfl rfl (As := [(0, ef), (0, 17)]) (rest := []) (c := 2514) rfl rfl (Nat.le_of_ble_eq_true rfl) (g.cell 0 rfl).1 (g.cell 0 rfl).2.1 (h_X19_copy (by omega) (by omega) (by decide) (by decide) VE.1 g) (hd_bV (fun hc1 pc => ?_))
  have ghc1 : Str t19 r19 hc1 := g.only pc.1.1 (by decide)
  have hC := hC.trans (pc.1.mono (by decide))
  have VL := VL.keep (by decide) pc.1 (by decide) (by decide)
  have VU := nv_copy VE pc
  refine hd_aload pkX19_tell rfl rfl (Int.natCast_nonneg _) ?_
  refine hd_ipush (z := 14) pkX19_tell rfl ?_
  refine hd_ipush (z := 18) pkX19_tell rfl ?_
  refine hd_callV pkX19_tell rfl (q := (KX19_copy, yX19_copy, 19, 2, 0)) rfl rfl rfl (As := [(0, 14), (0, 18)]) (rest := []) (c := 2514) rfl rfl (Nat.le_of_ble_eq_true rfl) (ghc1.cell 0 rfl).1 (ghc1.cell 0 rfl).2.1 (h_X19_copy (by decide) (by decide) (by decide) (by decide) VL.1 ghc1) (hd_bV (fun hc2 pc => ?_))
  have ghc2 : Str t19 r19 hc2 := ghc1.only pc.1.1 (by decide)
  have hC := hC.trans (pc.1.mono (by decide))
  have VU := VU.keep (by decide) pc.1 (by decide) (by decide)
  have VD := nv_copy VL pc
  refine hd_aload pkX19_tell rfl rfl (Int.natCast_nonneg _) ?_
  refine hd_ipush (z := 17) pkX19_tell rfl ?_
  refine hd_ipush (z := 18) pkX19_tell rfl ?_
  refine hd_callV pkX19_tell rfl (q := (KX19_reduce, yX19_reduce, 19, 2, 0)) rfl rfl rfl (As := [(0, 17), (0, 18)]) (rest := []) (c := 2514) rfl rfl (Nat.le_of_ble_eq_true rfl) (ghc2.cell 0 rfl).1 (ghc2.cell 0 rfl).2.1 (h_X19_reduce (m := 30) (by decide) (by decide) (by decide) (by decide) (by decide) (by decide) (by decide) VU.1 VU.2.1 VD.1 (nv_vl VD L0) (nv_su VU) L0 (PW_up bE hm) (PW_up L1 (by decide)) (by decide) (by decide) ghc2) (hd_bV (fun hc3 pr => ?_))
  have ghc3 : Str t19 r19 hc3 := ghc2.only pr.1.1 (by decide)
  have hC := hC.trans (pr.1.mono (by decide))
  have NU := pr.2.1
  have ND := pr.2.2.1
  have su : ga hc3 2516 17 = xE.sign := pr.2.2.2.1.trans VU.2.2
  have dd : vl (ga hc3 2515) 140 18 * gi xE.natAbs L = L ∨ vl (ga hc3 2515) 140 18 = 1 := by
    rcases pr.2.2.2.2 with q | q
    · exact Or.inr q.2.2.1
    · exact Or.inl q.2.2.1
  refine hd_aload pkX19_tell rfl rfl (Int.natCast_nonneg _) ?_
  refine hd_ipush (z := 17) pkX19_tell rfl ?_
  refine hd_ipush (z := 18) pkX19_tell rfl ?_
  refine hd_iload pkX19_tell rfl rfl ?_
  refine hd_callV pkX19_tell rfl (q := (KX19_told, yX19_told, 19, 3, 0)) rfl rfl rfl (As := [(0, 17), (0, 18), (0, part)]) (rest := []) (c := 2514) rfl rfl (Nat.le_of_ble_eq_true rfl) (ghc3.cell 0 rfl).1 (ghc3.cell 0 rfl).2.1 (h_X19_told (by decide) (by decide) (by decide) (by decide) NU rfl ND rfl ghc3) (hd_bL (fun tv hc4 pt => ?_))
  have ghc4 : Str t19 r19 hc4 := ghc3.only pt.1.1 (by decide)
  have hC := hC.trans (pt.1.mono (by decide))
  refine hd_lret pkX19_tell rfl ?_
  subst eQ
  refine ⟨rfl, rfl, hC, ?_, fun q => ?_⟩
  · by_cases q : part < 0
    · have e := pt.2.1 q
      have s3 := sgn3 xE
      show -1 ≤ tv ∧ tv < _
      omega
    · have e := pt.2.2 (by omega)
      have b := told_rng (part := part) (vl_nonneg NU) (vl_nonneg ND)
      show -1 ≤ tv ∧ tv < _
      omega
  · have e := pt.2.2 (by omega)
    show tv ≠ 0
    rw [e]
    exact told_low dd L2 q
set_option maxRecDepth 20000 in
set_option maxHeartbeats 8000000 in
theorem h_X19_worst {h : MH} {part cn : Int} (j19 : J19 h cn) (g : Str t19 r19 h) : MCal KX19_worst yX19_worst 0 0 [(2, ((2514 : Nat) : Int)), (0, part)] h (mRL fun v h' => (-2 ≤ v ∧ v < 1000000000000000000) ∧ Only C19 h h' ∧ J19 h' cn ∧ Str t19 r19 h') := by
  refine MCal.ofMW (Or.inl rfl) ⟨cp_X19, rfl⟩ (Nat.le_of_ble_eq_true rfl) ?_
  generalize eQ : (mRL fun v h' => (-2 ≤ v ∧ v < 1000000000000000000) ∧ Only C19 h h' ∧ J19 h' cn ∧ Str t19 r19 h' : MO → MH → Prop) = Q
  change MW KX19_worst Q 0 0 (pcA pgX19_worst 0) [(0, (2, ((2514 : Nat) : Int))), (1, (0, part))] [] h
  refine hd_locI (i := 1) rfl (fun rpart => ?_)
  refine hd_aload pkX19_worst rfl rfl (Int.natCast_nonneg _) ?_
  refine hd_getZ pkX19_worst rfl (g.cell 0 rfl).1 (g.cell 0 rfl).2.1 (fun v1 ev1 rv1 => ?_)
  obtain ⟨hv, qv1⟩ : ∃ x : Int, x = v1 := ⟨_, rfl⟩
  have e13 : ga h 2514 13 = hv := by rw [qv1, ev1]; rfl
  subst qv1
  refine hd_if_eq pkX19_worst rfl (fun c2 => ?_) (fun c2 => ?_)
  · skip
    refine hd_iload pkX19_worst rfl rfl ?_
    refine hd_callS pkX19_worst rfl (q := (KX19_none, yX19_none, 19, 1, 1)) rfl rfl rfl (As := [(0, part)]) (rest := []) rfl rfl (Nat.le_of_ble_eq_true rfl) rfl (h_X19_none g) (hd_bL (fun no hc3 po => ?_))
    obtain ⟨po, ehc3⟩ := po
    replace ehc3 := ehc3.symm
    subst ehc3
    refine hd_goto pkX19_worst rfl ?_
    refine hd_lret pkX19_worst rfl ?_
    subst eQ
    refine ⟨rfl, rfl, ?_, Only.refl _ _, j19, g⟩
    show -2 ≤ no ∧ no < _
    rw [po]
    split <;> decide
  · skip
    refine hd_iload pkX19_worst rfl rfl ?_
    refine hd_ipush (z := (-1)) pkX19_worst rfl ?_
    refine hd_ic_ge pkX19_worst rfl (fun c4 => ?_) (fun c4 => ?_)
    · skip
      refine hd_aload pkX19_worst rfl rfl (Int.natCast_nonneg _) ?_
      refine hd_ipush (z := 16) pkX19_worst rfl ?_
      refine hd_iload pkX19_worst rfl rfl ?_
      refine hd_callV pkX19_worst rfl (q := (KX19_tell, yX19_tell, 19, 2, 0)) rfl rfl rfl (As := [(0, 16), (0, part)]) (rest := []) (c := 2514) rfl rfl (Nat.le_of_ble_eq_true rfl) (g.cell 0 rfl).1 (g.cell 0 rfl).2.1 (h_X19_tell (m := 28) (Or.inr rfl) (j19.2.1 (j19.2.2 (by omega)).1).1 (j19.2.2 (by omega)).2 (by decide) g) (hd_bL (fun tv hc5 pt => ?_))
      have ghc5 : Str t19 r19 hc5 := g.only pt.1.1 (by decide)
      refine hd_lret pkX19_worst rfl ?_
      subst eQ
      refine ⟨rfl, rfl, ⟨?_, pt.1.1.mono (by decide), j19.ch pt.1 (by decide), ghc5⟩⟩
      show -2 ≤ tv ∧ tv < _
      have := pt.2.1
      omega
    · skip
      refine hd_iload pkX19_worst rfl rfl ?_
      refine hd_callS pkX19_worst rfl (q := (KX19_none, yX19_none, 19, 1, 1)) rfl rfl rfl (As := [(0, part)]) (rest := []) rfl rfl (Nat.le_of_ble_eq_true rfl) rfl (h_X19_none g) (hd_bL (fun no hc6 po => ?_))
      obtain ⟨po, ehc6⟩ := po
      replace ehc6 := ehc6.symm
      subst ehc6
      refine hd_goto pkX19_worst rfl ?_
      refine hd_lret pkX19_worst rfl ?_
      subst eQ
      refine ⟨rfl, rfl, ?_, Only.refl _ _, j19, g⟩
      show -2 ≤ no ∧ no < _
      rw [po]
      split <;> decide
