set_option maxRecDepth 20000 in
set_option maxHeartbeats 8000000 in
theorem h_X15_thrown {h : MH} (jj : J15 h) (g : Str t15 r15 h) : MCal KX15_thrown yX15_thrown 0 0 [(2, ((2595 : Nat) : Int))] h (mRI fun v h' => (True) ∧ h' = h) := by
  refine MCal.ofMW (Or.inl rfl) ⟨cp_X15, rfl⟩ (Nat.le_of_ble_eq_true rfl) ?_
  generalize eQ : (mRI fun v h' => (True) ∧ h' = h : MO → MH → Prop) = Q
  change MW KX15_thrown Q 0 0 (pcA pgX15_thrown 0) [(0, (2, ((2595 : Nat) : Int)))] [] h
  refine hd_aload pkX15_thrown rfl rfl (Int.natCast_nonneg _) ?_
  refine hd_getI pkX15_thrown rfl (g.cell 0 rfl).1 (g.cell 0 rfl).2.1 (fun v1 ev1 rv1 => ?_)
  replace ev1 : v1 = ga h 2595 0 := ev1
  refine hd_iret pkX15_thrown rfl ?_
  subst eQ
  exact ⟨rfl, rfl, trivial, rfl⟩
set_option maxRecDepth 20000 in
set_option maxHeartbeats 8000000 in
theorem h_X15_isOut {h : MH} {x low high : Int} (g : Str t15 r15 h) : MCal KX15_isOut yX15_isOut 0 0 [(1, x), (1, low), (1, high)] h (mRI fun v h' => ((0 ≤ v ∧ v ≤ 1) ∧ ((v = 0 ∧ low ≤ x ∧ x ≤ high) ∨ (v = 1 ∧ (x < low ∨ high < x)))) ∧ h' = h) := by
  refine MCal.ofMW (Or.inl rfl) ⟨cp_X15, rfl⟩ (Nat.le_of_ble_eq_true rfl) ?_
  generalize eQ : (mRI fun v h' => ((0 ≤ v ∧ v ≤ 1) ∧ ((v = 0 ∧ low ≤ x ∧ x ≤ high) ∨ (v = 1 ∧ (x < low ∨ high < x)))) ∧ h' = h : MO → MH → Prop) = Q
  change MW KX15_isOut Q 0 0 (pcA pgX15_isOut 0) [(0, (1, x)), (2, (1, low)), (4, (1, high))] [] h
  refine hd_locL (i := 0) rfl (fun rx => ?_)
  refine hd_locL (i := 2) rfl (fun rlow => ?_)
  refine hd_locL (i := 4) rfl (fun rhigh => ?_)
  refine hd_lload pkX15_isOut rfl rfl ?_
  refine hd_lload pkX15_isOut rfl rfl ?_
  refine hd_lc_lt pkX15_isOut rfl (fun c1 => ?_) (fun c1 => ?_)
  · skip
    refine hd_ipush (z := 1) pkX15_isOut rfl ?_
    refine hd_goto pkX15_isOut rfl ?_
    refine hd_zret pkX15_isOut rfl (by omega) ?_
    subst eQ
    refine ⟨rfl, rfl, ⟨(by show 0 ≤ (1 : Int) ∧ (1 : Int) ≤ 1; omega), ?_⟩, rfl⟩
    show ((1 : Int) = 0 ∧ low ≤ x ∧ x ≤ high) ∨ ((1 : Int) = 1 ∧ (x < low ∨ high < x))
    omega
  · skip
    refine hd_lload pkX15_isOut rfl rfl ?_
    refine hd_lload pkX15_isOut rfl rfl ?_
    refine hd_lc_le pkX15_isOut rfl (fun c2 => ?_) (fun c2 => ?_)
    · skip
      refine hd_ipush (z := 0) pkX15_isOut rfl ?_
      refine hd_zret pkX15_isOut rfl (by omega) ?_
      subst eQ
      refine ⟨rfl, rfl, ⟨(by show 0 ≤ (0 : Int) ∧ (0 : Int) ≤ 1; omega), ?_⟩, rfl⟩
      show ((0 : Int) = 0 ∧ low ≤ x ∧ x ≤ high) ∨ ((0 : Int) = 1 ∧ (x < low ∨ high < x))
      omega
    · skip
      refine hd_ipush (z := 1) pkX15_isOut rfl ?_
      refine hd_goto pkX15_isOut rfl ?_
      refine hd_zret pkX15_isOut rfl (by omega) ?_
      subst eQ
      refine ⟨rfl, rfl, ⟨(by show 0 ≤ (1 : Int) ∧ (1 : Int) ≤ 1; omega), ?_⟩, rfl⟩
      show ((1 : Int) = 0 ∧ low ≤ x ∧ x ≤ high) ∨ ((1 : Int) = 1 ∧ (x < low ∨ high < x))
      omega
set_option maxRecDepth 20000 in
set_option maxHeartbeats 8000000 in
theorem h_X15_unit {h : MH} {u : Int} (jj : J15 h) (g : Str t15 r15 h) : MCal KX15_unit yX15_unit 0 0 [(2, ((2595 : Nat) : Int)), (0, u)] h (mRI fun v h' => ((0 ≤ v ∧ v ≤ 1)) ∧ Wd 2595 [2596] [0, 1] h h' ∧ J15 h' ∧ Str t15 r15 h') := by
  refine MCal.ofMW (Or.inl rfl) ⟨cp_X15, rfl⟩ (Nat.le_of_ble_eq_true rfl) ?_
  generalize eQ : (mRI fun v h' => ((0 ≤ v ∧ v ≤ 1)) ∧ Wd 2595 [2596] [0, 1] h h' ∧ J15 h' ∧ Str t15 r15 h' : MO → MH → Prop) = Q
  change MW KX15_unit Q 0 0 (pcA pgX15_unit 0) [(0, (2, ((2595 : Nat) : Int))), (1, (0, u))] [] h
  refine hd_locI (i := 1) rfl (fun ru => ?_)
  have ww : Wd 2595 [2596] [0, 1] h h := Wd.refl _ _ _ _
  have kf1 : ga h 2595 1 = ga h 2595 1 := rfl
  refine hd_aload pkX15_unit rfl rfl (Int.natCast_nonneg _) ?_
  refine hd_ipush (z := 0) pkX15_unit rfl ?_
  refine hd_putI pkX15_unit rfl (g.cell 0 rfl).1 (g.cell 0 rfl).2.1 (fun hh1 ehh1 => ?_)
  have ghh1 : Str t15 r15 hh1 := by rw [ehh1]; exact g.setF rfl
  have jj := jj.wf_0 ehh1
  have ww := ww.wF ehh1 (by decide) (by decide)
  have kf1 : ga hh1 2595 1 = ga h 2595 1 := (ga_wr ehh1 (by decide) (by decide)).trans (if_neg (by decide))
  refine hd_iload pkX15_unit rfl rfl ?_
  refine hd_ipush (z := 32) pkX15_unit rfl ?_
  refine hd_ic_lt pkX15_unit rfl (fun c2 => ?_) (fun c2 => ?_)
  · skip
    refine hd_ipush (z := 0) pkX15_unit rfl ?_
    refine hd_zret pkX15_unit rfl (by omega) ?_
    subst eQ
    refine ⟨rfl, rfl, ?_, ww, jj, ghh1⟩
    show (0 ≤ (0) ∧ (0) ≤ 1)
    omega
  · skip
    refine hd_iload pkX15_unit rfl rfl ?_
    refine hd_ipush (z := 126) pkX15_unit rfl ?_
    refine hd_ic_gt pkX15_unit rfl (fun c3 => ?_) (fun c3 => ?_)
    · skip
      refine hd_ipush (z := 0) pkX15_unit rfl ?_
      refine hd_zret pkX15_unit rfl (by omega) ?_
      subst eQ
      refine ⟨rfl, rfl, ?_, ww, jj, ghh1⟩
      show (0 ≤ (0) ∧ (0) ≤ 1)
      omega
    · skip
      refine hd_aload pkX15_unit rfl rfl (Int.natCast_nonneg _) ?_
      refine hd_getI pkX15_unit rfl (ghh1.cell 0 rfl).1 (ghh1.cell 0 rfl).2.1 (fun v4 ev4 rv4 => ?_)
      replace ev4 : v4 = ga hh1 2595 1 := ev4
      have bv4 : 0 ≤ v4 ∧ v4 ≤ 200 := by rw [ev4]; exact jj.f_letters
      refine hd_ipush (z := 200) pkX15_unit rfl ?_
      refine hd_ic_ne pkX15_unit rfl (fun c5 => ?_) (fun c5 => ?_)
      · skip
        refine hd_aload pkX15_unit rfl rfl (Int.natCast_nonneg _) ?_
        refine hd_getR (n := 2596) pkX15_unit rfl (ghh1.cell 0 rfl).1 (ghh1.cell 0 rfl).2.1 (ghh1.ref 0 rfl) ?_
        refine hd_aload pkX15_unit rfl rfl (Int.natCast_nonneg _) ?_
        refine hd_getI pkX15_unit rfl (ghh1.cell 0 rfl).1 (ghh1.cell 0 rfl).2.1 (fun v6 ev6 rv6 => ?_)
        replace ev6 : v6 = ga hh1 2595 1 := ev6
        have bv6 : 0 ≤ v6 ∧ v6 ≤ 200 := by rw [ev6]; exact jj.f_letters
        refine hd_iload pkX15_unit rfl rfl ?_
        refine hd_iast (n := 200) pkX15_unit rfl (ghh1.cell 1 rfl) (by decide) (by omega) (by omega) (fun hh7 ehh7 => ?_)
        have ghh7 : Str t15 r15 hh7 := by rw [ehh7]; exact ghh1.setA rfl
        have jj := jj.free ehh7 (by decide)
        have ww := ww.wA ehh7 (by decide) (by decide)
        have kf1 : ga hh7 2595 1 = ga hh1 2595 1 := by rw [ga_upn ehh7 (by decide)]
        refine hd_aload pkX15_unit rfl rfl (Int.natCast_nonneg _) ?_
        refine hd_dup pkX15_unit rfl rfl ?_
        refine hd_getI pkX15_unit rfl (ghh7.cell 0 rfl).1 (ghh7.cell 0 rfl).2.1 (fun v8 ev8 rv8 => ?_)
        replace ev8 : v8 = ga hh7 2595 1 := ev8
        have bv8 : 0 ≤ v8 ∧ v8 ≤ 200 := by rw [ev8]; exact jj.f_letters
        refine hd_ipush (z := 1) pkX15_unit rfl ?_
        refine hd_iadd pkX15_unit rfl (by omega) ?_
        refine hd_putI pkX15_unit rfl (ghh7.cell 0 rfl).1 (ghh7.cell 0 rfl).2.1 (fun hh9 ehh9 => ?_)
        have ghh9 : Str t15 r15 hh9 := by rw [ehh9]; exact ghh7.setF rfl
        have jj := jj.wf_1 ehh9 (by unfold K15_f_letters; omega)
        have ww := ww.wF ehh9 (by decide) (by decide)
        have kf1 : ga hh9 2595 1 = (v8 + 1) := (ga_wr ehh9 (by decide) (by decide)).trans (if_pos rfl)
        refine hd_ipush (z := 1) pkX15_unit rfl ?_
        refine hd_zret pkX15_unit rfl (by omega) ?_
        subst eQ
        refine ⟨rfl, rfl, ?_, ww, jj, ghh9⟩
        show (0 ≤ (1) ∧ (1) ≤ 1)
        omega
      · skip
        refine hd_ipush (z := 0) pkX15_unit rfl ?_
        refine hd_zret pkX15_unit rfl (by omega) ?_
        subst eQ
        refine ⟨rfl, rfl, ?_, ww, jj, ghh1⟩
        show (0 ≤ (0) ∧ (0) ≤ 1)
        omega
set_option maxRecDepth 20000 in
set_option maxHeartbeats 8000000 in
theorem h_X15_sort {h : MH} {u : Int} (g : Str t15 r15 h) : MCal KX15_sort yX15_sort 0 0 [(0, u)] h (mRI fun v h' => ((v = 1 ∧ 97 ≤ u ∧ u ≤ 122) ∨ (v = 2 ∧ 48 ≤ u ∧ u ≤ 57) ∨ (v = 0 ∧ (u < 97 ∨ 122 < u) ∧ (u < 48 ∨ 57 < u))) ∧ h' = h) := by
  refine MCal.ofMW (Or.inl rfl) ⟨cp_X15, rfl⟩ (Nat.le_of_ble_eq_true rfl) ?_
  generalize eQ : (mRI fun v h' => ((v = 1 ∧ 97 ≤ u ∧ u ≤ 122) ∨ (v = 2 ∧ 48 ≤ u ∧ u ≤ 57) ∨ (v = 0 ∧ (u < 97 ∨ 122 < u) ∧ (u < 48 ∨ 57 < u))) ∧ h' = h : MO → MH → Prop) = Q
  change MW KX15_sort Q 0 0 (pcA pgX15_sort 0) [(0, (0, u))] [] h
  refine hd_locI (i := 0) rfl (fun ru => ?_)
  refine hd_iload pkX15_sort rfl rfl ?_
  refine hd_ipush (z := 97) pkX15_sort rfl ?_
  refine hd_ic_lt pkX15_sort rfl (fun c1 => ?_) (fun c1 => ?_)
  · skip
    refine hd_iload pkX15_sort rfl rfl ?_
    refine hd_ipush (z := 48) pkX15_sort rfl ?_
    refine hd_ic_lt pkX15_sort rfl (fun c2 => ?_) (fun c2 => ?_)
    · skip
      refine hd_ipush (z := 0) pkX15_sort rfl ?_
      refine hd_iret pkX15_sort rfl ?_
      subst eQ
      refine ⟨rfl, rfl, ?_, rfl⟩
      show ((0) = 1 ∧ 97 ≤ u ∧ u ≤ 122) ∨ ((0) = 2 ∧ 48 ≤ u ∧ u ≤ 57) ∨ ((0) = 0 ∧ (u < 97 ∨ 122 < u) ∧ (u < 48 ∨ 57 < u))
      omega
    · skip
      refine hd_iload pkX15_sort rfl rfl ?_
      refine hd_ipush (z := 57) pkX15_sort rfl ?_
      refine hd_ic_gt pkX15_sort rfl (fun c3 => ?_) (fun c3 => ?_)
      · skip
        refine hd_ipush (z := 0) pkX15_sort rfl ?_
        refine hd_iret pkX15_sort rfl ?_
        subst eQ
        refine ⟨rfl, rfl, ?_, rfl⟩
        show ((0) = 1 ∧ 97 ≤ u ∧ u ≤ 122) ∨ ((0) = 2 ∧ 48 ≤ u ∧ u ≤ 57) ∨ ((0) = 0 ∧ (u < 97 ∨ 122 < u) ∧ (u < 48 ∨ 57 < u))
        omega
      · skip
        refine hd_ipush (z := 2) pkX15_sort rfl ?_
        refine hd_goto pkX15_sort rfl ?_
        refine hd_iret pkX15_sort rfl ?_
        subst eQ
        refine ⟨rfl, rfl, ?_, rfl⟩
        show ((2) = 1 ∧ 97 ≤ u ∧ u ≤ 122) ∨ ((2) = 2 ∧ 48 ≤ u ∧ u ≤ 57) ∨ ((2) = 0 ∧ (u < 97 ∨ 122 < u) ∧ (u < 48 ∨ 57 < u))
        omega
  · skip
    refine hd_iload pkX15_sort rfl rfl ?_
    refine hd_ipush (z := 122) pkX15_sort rfl ?_
    refine hd_ic_gt pkX15_sort rfl (fun c4 => ?_) (fun c4 => ?_)
    · skip
      refine hd_iload pkX15_sort rfl rfl ?_
      refine hd_ipush (z := 48) pkX15_sort rfl ?_
      refine hd_ic_lt pkX15_sort rfl (fun c5 => ?_) (fun c5 => ?_)
      · skip
        refine hd_ipush (z := 0) pkX15_sort rfl ?_
        refine hd_iret pkX15_sort rfl ?_
        subst eQ
        refine ⟨rfl, rfl, ?_, rfl⟩
        show ((0) = 1 ∧ 97 ≤ u ∧ u ≤ 122) ∨ ((0) = 2 ∧ 48 ≤ u ∧ u ≤ 57) ∨ ((0) = 0 ∧ (u < 97 ∨ 122 < u) ∧ (u < 48 ∨ 57 < u))
        omega
      · skip
        refine hd_iload pkX15_sort rfl rfl ?_
        refine hd_ipush (z := 57) pkX15_sort rfl ?_
        refine hd_ic_gt pkX15_sort rfl (fun c6 => ?_) (fun c6 => ?_)
        · skip
          refine hd_ipush (z := 0) pkX15_sort rfl ?_
          refine hd_iret pkX15_sort rfl ?_
          subst eQ
          refine ⟨rfl, rfl, ?_, rfl⟩
          show ((0) = 1 ∧ 97 ≤ u ∧ u ≤ 122) ∨ ((0) = 2 ∧ 48 ≤ u ∧ u ≤ 57) ∨ ((0) = 0 ∧ (u < 97 ∨ 122 < u) ∧ (u < 48 ∨ 57 < u))
          omega
        · skip
          refine hd_ipush (z := 2) pkX15_sort rfl ?_
          refine hd_goto pkX15_sort rfl ?_
          refine hd_iret pkX15_sort rfl ?_
          subst eQ
          refine ⟨rfl, rfl, ?_, rfl⟩
          show ((2) = 1 ∧ 97 ≤ u ∧ u ≤ 122) ∨ ((2) = 2 ∧ 48 ≤ u ∧ u ≤ 57) ∨ ((2) = 0 ∧ (u < 97 ∨ 122 < u) ∧ (u < 48 ∨ 57 < u))
          omega
    · skip
      refine hd_ipush (z := 1) pkX15_sort rfl ?_
      refine hd_goto pkX15_sort rfl ?_
      refine hd_iret pkX15_sort rfl ?_
      subst eQ
      refine ⟨rfl, rfl, ?_, rfl⟩
      show ((1) = 1 ∧ 97 ≤ u ∧ u ≤ 122) ∨ ((1) = 2 ∧ 48 ≤ u ∧ u ≤ 57) ∨ ((1) = 0 ∧ (u < 97 ∨ 122 < u) ∧ (u < 48 ∨ 57 < u))
      omega
set_option maxRecDepth 20000 in
set_option maxHeartbeats 8000000 in
theorem h_X15_is_2596 {h : MH} {w s : Int} (jj : J15 h) (hw : 0 ≤ w ∧ w ≤ 200) (g : Str t15 r15 h) : MCal KX15_is yX15_is 0 0 [(2, ((2595 : Nat) : Int)), (2, ((2596 : Nat) : Int)), (0, w), (0, s)] h (mRI fun v h' => ((0 ≤ v ∧ v ≤ 1) ∧ ((v = 1 ∧ ga h 2599 w = ga h 2598 w + 1 ∧ ga h 2596 (ga h 2598 w) = s) ∨ (v = 0 ∧ (ga h 2599 w ≠ ga h 2598 w + 1 ∨ ga h 2596 (ga h 2598 w) ≠ s)))) ∧ h' = h) := by
  refine MCal.ofMW (Or.inl rfl) ⟨cp_X15, rfl⟩ (Nat.le_of_ble_eq_true rfl) ?_
  generalize eQ : (mRI fun v h' => ((0 ≤ v ∧ v ≤ 1) ∧ ((v = 1 ∧ ga h 2599 w = ga h 2598 w + 1 ∧ ga h 2596 (ga h 2598 w) = s) ∨ (v = 0 ∧ (ga h 2599 w ≠ ga h 2598 w + 1 ∨ ga h 2596 (ga h 2598 w) ≠ s)))) ∧ h' = h : MO → MH → Prop) = Q
  change MW KX15_is Q 0 0 (pcA pgX15_is 0) [(0, (2, ((2595 : Nat) : Int))), (1, (2, ((2596 : Nat) : Int))), (2, (0, w)), (3, (0, s))] [] h
  refine hd_locI (i := 2) rfl (fun rw => ?_)
  refine hd_locI (i := 3) rfl (fun rs => ?_)
  refine hd_aload pkX15_is rfl rfl (Int.natCast_nonneg _) ?_
  refine hd_getR (n := 2599) pkX15_is rfl (g.cell 0 rfl).1 (g.cell 0 rfl).2.1 (g.ref 3 rfl) ?_
  refine hd_iload pkX15_is rfl rfl ?_
  refine hd_iald (n := 201) pkX15_is rfl (g.cell 4 rfl) (by omega) (by omega) (fun v1 ev1 rv1 => ?_)
  have bv1 : 0 ≤ v1 ∧ v1 ≤ 200 := by rw [ev1]; exact jj.a_ends _ (by omega) (by omega)
  refine hd_aload pkX15_is rfl rfl (Int.natCast_nonneg _) ?_
  refine hd_getR (n := 2598) pkX15_is rfl (g.cell 0 rfl).1 (g.cell 0 rfl).2.1 (g.ref 2 rfl) ?_
  refine hd_iload pkX15_is rfl rfl ?_
  refine hd_iald (n := 201) pkX15_is rfl (g.cell 3 rfl) (by omega) (by omega) (fun v2 ev2 rv2 => ?_)
  have bv2 : 0 ≤ v2 ∧ v2 ≤ 200 := by rw [ev2]; exact jj.a_begins _ (by omega) (by omega)
  refine hd_ipush (z := 1) pkX15_is rfl ?_
  refine hd_iadd pkX15_is rfl (by omega) ?_
  refine hd_ic_ne pkX15_is rfl (fun c3 => ?_) (fun c3 => ?_)
  · skip
    refine hd_ipush (z := 0) pkX15_is rfl ?_
    refine hd_zret pkX15_is rfl (by omega) ?_
    subst eQ
    refine ⟨rfl, rfl, ⟨(by show 0 ≤ (0 : Int) ∧ (0 : Int) ≤ 1; omega), ?_⟩, rfl⟩
    show ((0 : Int) = 1 ∧ ga h 2599 w = ga h 2598 w + 1 ∧ ga h 2596 (ga h 2598 w) = s) ∨ ((0 : Int) = 0 ∧ (ga h 2599 w ≠ ga h 2598 w + 1 ∨ ga h 2596 (ga h 2598 w) ≠ s))
    omega
  · skip
    refine hd_aload pkX15_is rfl rfl (Int.natCast_nonneg _) ?_
    refine hd_aload pkX15_is rfl rfl (Int.natCast_nonneg _) ?_
    refine hd_getR (n := 2598) pkX15_is rfl (g.cell 0 rfl).1 (g.cell 0 rfl).2.1 (g.ref 2 rfl) ?_
    refine hd_iload pkX15_is rfl rfl ?_
    refine hd_iald (n := 201) pkX15_is rfl (g.cell 3 rfl) (by omega) (by omega) (fun v4 ev4 rv4 => ?_)
    have bv4 : 0 ≤ v4 ∧ v4 ≤ 200 := by rw [ev4]; exact jj.a_begins _ (by omega) (by omega)
    have qz := ev4
    refine hd_iald (n := 200) pkX15_is rfl (g.cell 1 rfl) (by omega) (by omega) (fun v5 ev5 rv5 => ?_)
    refine hd_iload pkX15_is rfl rfl ?_
    refine hd_ic_ne pkX15_is rfl (fun c6 => ?_) (fun c6 => ?_)
    · skip
      refine hd_ipush (z := 0) pkX15_is rfl ?_
      refine hd_zret pkX15_is rfl (by omega) ?_
      subst eQ
      refine ⟨rfl, rfl, ⟨(by show 0 ≤ (0 : Int) ∧ (0 : Int) ≤ 1; omega), ?_⟩, rfl⟩
      show ((0 : Int) = 1 ∧ ga h 2599 w = ga h 2598 w + 1 ∧ ga h 2596 (ga h 2598 w) = s) ∨ ((0 : Int) = 0 ∧ (ga h 2599 w ≠ ga h 2598 w + 1 ∨ ga h 2596 (ga h 2598 w) ≠ s))
      rw [← qz]
      omega
    · skip
      refine hd_ipush (z := 1) pkX15_is rfl ?_
      refine hd_goto pkX15_is rfl ?_
      refine hd_zret pkX15_is rfl (by omega) ?_
      subst eQ
      refine ⟨rfl, rfl, ⟨(by show 0 ≤ (1 : Int) ∧ (1 : Int) ≤ 1; omega), ?_⟩, rfl⟩
      show ((1 : Int) = 1 ∧ ga h 2599 w = ga h 2598 w + 1 ∧ ga h 2596 (ga h 2598 w) = s) ∨ ((1 : Int) = 0 ∧ (ga h 2599 w ≠ ga h 2598 w + 1 ∨ ga h 2596 (ga h 2598 w) ≠ s))
      rw [← qz]
      omega
set_option maxRecDepth 20000 in
set_option maxHeartbeats 8000000 in
theorem h_X15_is_2597 {h : MH} {w s : Int} (jj : J15 h) (hw : 0 ≤ w ∧ w ≤ 200) (g : Str t15 r15 h) : MCal KX15_is yX15_is 0 0 [(2, ((2595 : Nat) : Int)), (2, ((2597 : Nat) : Int)), (0, w), (0, s)] h (mRI fun v h' => ((0 ≤ v ∧ v ≤ 1) ∧ ((v = 1 ∧ ga h 2599 w = ga h 2598 w + 1 ∧ ga h 2597 (ga h 2598 w) = s) ∨ (v = 0 ∧ (ga h 2599 w ≠ ga h 2598 w + 1 ∨ ga h 2597 (ga h 2598 w) ≠ s)))) ∧ h' = h) := by
  refine MCal.ofMW (Or.inl rfl) ⟨cp_X15, rfl⟩ (Nat.le_of_ble_eq_true rfl) ?_
  generalize eQ : (mRI fun v h' => ((0 ≤ v ∧ v ≤ 1) ∧ ((v = 1 ∧ ga h 2599 w = ga h 2598 w + 1 ∧ ga h 2597 (ga h 2598 w) = s) ∨ (v = 0 ∧ (ga h 2599 w ≠ ga h 2598 w + 1 ∨ ga h 2597 (ga h 2598 w) ≠ s)))) ∧ h' = h : MO → MH → Prop) = Q
  change MW KX15_is Q 0 0 (pcA pgX15_is 0) [(0, (2, ((2595 : Nat) : Int))), (1, (2, ((2597 : Nat) : Int))), (2, (0, w)), (3, (0, s))] [] h
  refine hd_locI (i := 2) rfl (fun rw => ?_)
  refine hd_locI (i := 3) rfl (fun rs => ?_)
  refine hd_aload pkX15_is rfl rfl (Int.natCast_nonneg _) ?_
  refine hd_getR (n := 2599) pkX15_is rfl (g.cell 0 rfl).1 (g.cell 0 rfl).2.1 (g.ref 3 rfl) ?_
  refine hd_iload pkX15_is rfl rfl ?_
  refine hd_iald (n := 201) pkX15_is rfl (g.cell 4 rfl) (by omega) (by omega) (fun v1 ev1 rv1 => ?_)
  have bv1 : 0 ≤ v1 ∧ v1 ≤ 200 := by rw [ev1]; exact jj.a_ends _ (by omega) (by omega)
  refine hd_aload pkX15_is rfl rfl (Int.natCast_nonneg _) ?_
  refine hd_getR (n := 2598) pkX15_is rfl (g.cell 0 rfl).1 (g.cell 0 rfl).2.1 (g.ref 2 rfl) ?_
  refine hd_iload pkX15_is rfl rfl ?_
  refine hd_iald (n := 201) pkX15_is rfl (g.cell 3 rfl) (by omega) (by omega) (fun v2 ev2 rv2 => ?_)
  have bv2 : 0 ≤ v2 ∧ v2 ≤ 200 := by rw [ev2]; exact jj.a_begins _ (by omega) (by omega)
  refine hd_ipush (z := 1) pkX15_is rfl ?_
  refine hd_iadd pkX15_is rfl (by omega) ?_
  refine hd_ic_ne pkX15_is rfl (fun c3 => ?_) (fun c3 => ?_)
  · skip
    refine hd_ipush (z := 0) pkX15_is rfl ?_
    refine hd_zret pkX15_is rfl (by omega) ?_
    subst eQ
    refine ⟨rfl, rfl, ⟨(by show 0 ≤ (0 : Int) ∧ (0 : Int) ≤ 1; omega), ?_⟩, rfl⟩
    show ((0 : Int) = 1 ∧ ga h 2599 w = ga h 2598 w + 1 ∧ ga h 2597 (ga h 2598 w) = s) ∨ ((0 : Int) = 0 ∧ (ga h 2599 w ≠ ga h 2598 w + 1 ∨ ga h 2597 (ga h 2598 w) ≠ s))
    omega
  · skip
    refine hd_aload pkX15_is rfl rfl (Int.natCast_nonneg _) ?_
    refine hd_aload pkX15_is rfl rfl (Int.natCast_nonneg _) ?_
    refine hd_getR (n := 2598) pkX15_is rfl (g.cell 0 rfl).1 (g.cell 0 rfl).2.1 (g.ref 2 rfl) ?_
    refine hd_iload pkX15_is rfl rfl ?_
    refine hd_iald (n := 201) pkX15_is rfl (g.cell 3 rfl) (by omega) (by omega) (fun v4 ev4 rv4 => ?_)
    have bv4 : 0 ≤ v4 ∧ v4 ≤ 200 := by rw [ev4]; exact jj.a_begins _ (by omega) (by omega)
    have qz := ev4
    refine hd_iald (n := 200) pkX15_is rfl (g.cell 2 rfl) (by omega) (by omega) (fun v5 ev5 rv5 => ?_)
    refine hd_iload pkX15_is rfl rfl ?_
    refine hd_ic_ne pkX15_is rfl (fun c6 => ?_) (fun c6 => ?_)
    · skip
      refine hd_ipush (z := 0) pkX15_is rfl ?_
      refine hd_zret pkX15_is rfl (by omega) ?_
      subst eQ
      refine ⟨rfl, rfl, ⟨(by show 0 ≤ (0 : Int) ∧ (0 : Int) ≤ 1; omega), ?_⟩, rfl⟩
      show ((0 : Int) = 1 ∧ ga h 2599 w = ga h 2598 w + 1 ∧ ga h 2597 (ga h 2598 w) = s) ∨ ((0 : Int) = 0 ∧ (ga h 2599 w ≠ ga h 2598 w + 1 ∨ ga h 2597 (ga h 2598 w) ≠ s))
      rw [← qz]
      omega
    · skip
      refine hd_ipush (z := 1) pkX15_is rfl ?_
      refine hd_goto pkX15_is rfl ?_
      refine hd_zret pkX15_is rfl (by omega) ?_
      subst eQ
      refine ⟨rfl, rfl, ⟨(by show 0 ≤ (1 : Int) ∧ (1 : Int) ≤ 1; omega), ?_⟩, rfl⟩
      show ((1 : Int) = 1 ∧ ga h 2599 w = ga h 2598 w + 1 ∧ ga h 2597 (ga h 2598 w) = s) ∨ ((1 : Int) = 0 ∧ (ga h 2599 w ≠ ga h 2598 w + 1 ∨ ga h 2597 (ga h 2598 w) ≠ s))
      rw [← qz]
      omega
set_option maxRecDepth 20000 in
set_option maxHeartbeats 8000000 in
theorem h_X15_length {h : MH} {w : Int} (jj : J15 h) (hw : 0 ≤ w ∧ w ≤ 200) (g : Str t15 r15 h) : MCal KX15_length yX15_length 0 0 [(2, ((2595 : Nat) : Int)), (0, w)] h (mRI fun v h' => (v = ga h 2599 w - ga h 2598 w) ∧ h' = h) := by
  refine MCal.ofMW (Or.inl rfl) ⟨cp_X15, rfl⟩ (Nat.le_of_ble_eq_true rfl) ?_
  generalize eQ : (mRI fun v h' => (v = ga h 2599 w - ga h 2598 w) ∧ h' = h : MO → MH → Prop) = Q
  change MW KX15_length Q 0 0 (pcA pgX15_length 0) [(0, (2, ((2595 : Nat) : Int))), (1, (0, w))] [] h
  refine hd_locI (i := 1) rfl (fun rw => ?_)
  refine hd_aload pkX15_length rfl rfl (Int.natCast_nonneg _) ?_
  refine hd_getR (n := 2599) pkX15_length rfl (g.cell 0 rfl).1 (g.cell 0 rfl).2.1 (g.ref 3 rfl) ?_
  refine hd_iload pkX15_length rfl rfl ?_
  refine hd_iald (n := 201) pkX15_length rfl (g.cell 4 rfl) (by omega) (by omega) (fun v1 ev1 rv1 => ?_)
  have bv1 : 0 ≤ v1 ∧ v1 ≤ 200 := by rw [ev1]; exact jj.a_ends _ (by omega) (by omega)
  refine hd_aload pkX15_length rfl rfl (Int.natCast_nonneg _) ?_
  refine hd_getR (n := 2598) pkX15_length rfl (g.cell 0 rfl).1 (g.cell 0 rfl).2.1 (g.ref 2 rfl) ?_
  refine hd_iload pkX15_length rfl rfl ?_
  refine hd_iald (n := 201) pkX15_length rfl (g.cell 3 rfl) (by omega) (by omega) (fun v2 ev2 rv2 => ?_)
  have bv2 : 0 ≤ v2 ∧ v2 ≤ 200 := by rw [ev2]; exact jj.a_begins _ (by omega) (by omega)
  refine hd_isub pkX15_length rfl (by omega) ?_
  refine hd_iret pkX15_length rfl ?_
  subst eQ
  refine ⟨rfl, rfl, ?_, rfl⟩
  show ((v1 - v2)) = ga h 2599 w - ga h 2598 w
  omega
set_option maxRecDepth 20000 in
set_option maxHeartbeats 8000000 in
theorem h_X15_sortOf {h : MH} {w : Int} (jj : J15 h) (hw : 0 ≤ w ∧ w ≤ 200) (hn : ga h 2598 w ≤ ga h 2599 w) (g : Str t15 r15 h) : MCal KX15_sortOf yX15_sortOf 0 0 [(2, ((2595 : Nat) : Int)), (0, w)] h (mRI fun v h' => ((v = 0 ∧ (ga h 2598 w = ga h 2599 w ∨ ga h 2598 w < ga h 2599 w)) ∨ (v = 1 ∧ ga h 2598 w < ga h 2599 w) ∨ (v = 2 ∧ ga h 2598 w < ga h 2599 w ∧ 48 ≤ ga h 2596 (ga h 2598 w) ∧ ga h 2596 (ga h 2598 w) ≤ 57)) ∧ h' = h) := by
  refine MCal.ofMW (Or.inl rfl) ⟨cp_X15, rfl⟩ (Nat.le_of_ble_eq_true rfl) ?_
  generalize eQ : (mRI fun v h' => ((v = 0 ∧ (ga h 2598 w = ga h 2599 w ∨ ga h 2598 w < ga h 2599 w)) ∨ (v = 1 ∧ ga h 2598 w < ga h 2599 w) ∨ (v = 2 ∧ ga h 2598 w < ga h 2599 w ∧ 48 ≤ ga h 2596 (ga h 2598 w) ∧ ga h 2596 (ga h 2598 w) ≤ 57)) ∧ h' = h : MO → MH → Prop) = Q
  change MW KX15_sortOf Q 0 0 (pcA pgX15_sortOf 0) [(0, (2, ((2595 : Nat) : Int))), (1, (0, w))] [] h
  refine hd_locI (i := 1) rfl (fun rw => ?_)
  have bb := jj.a_begins w (by omega) (by omega)
  have be := jj.a_ends w (by omega) (by omega)
  refine hd_aload pkX15_sortOf rfl rfl (Int.natCast_nonneg _) ?_
  refine hd_iload pkX15_sortOf rfl rfl ?_
  refine hd_callV pkX15_sortOf rfl (q := (KX15_length, yX15_length, 15, 1, 0)) rfl rfl rfl (As := [(0, w)]) (rest := []) (c := 2595) rfl rfl (Nat.le_of_ble_eq_true rfl) (g.cell 0 rfl).1 (g.cell 0 rfl).2.1 (h_X15_length jj (by omega) g) (hd_bI (fun w2 hc3 p1 => ?_))
  obtain ⟨p1, ehc3⟩ := p1
  replace ehc3 := ehc3.symm
  subst ehc3
  refine hd_if_ne pkX15_sortOf rfl (fun c4 => ?_) (fun c4 => ?_)
  · skip
    refine hd_aload pkX15_sortOf rfl rfl (Int.natCast_nonneg _) ?_
    refine hd_getR (n := 2596) pkX15_sortOf rfl (g.cell 0 rfl).1 (g.cell 0 rfl).2.1 (g.ref 0 rfl) ?_
    refine hd_aload pkX15_sortOf rfl rfl (Int.natCast_nonneg _) ?_
    refine hd_getR (n := 2598) pkX15_sortOf rfl (g.cell 0 rfl).1 (g.cell 0 rfl).2.1 (g.ref 2 rfl) ?_
    refine hd_iload pkX15_sortOf rfl rfl ?_
    refine hd_iald (n := 201) pkX15_sortOf rfl (g.cell 3 rfl) (by omega) (by omega) (fun v5 ev5 rv5 => ?_)
    have bv5 : 0 ≤ v5 ∧ v5 ≤ 200 := by rw [ev5]; exact jj.a_begins _ (by omega) (by omega)
    have qz := ev5
    refine hd_iald (n := 200) pkX15_sortOf rfl (g.cell 1 rfl) (by omega) (by omega) (fun v6 ev6 rv6 => ?_)
    refine hd_callS pkX15_sortOf rfl (q := (KX15_sort, yX15_sort, 15, 1, 1)) rfl rfl rfl (As := [(0, v6)]) (rest := []) rfl rfl (Nat.le_of_ble_eq_true rfl) rfl (h_X15_sort g) (hd_bI (fun w8 hc9 p7 => ?_))
    obtain ⟨p7, ehc9⟩ := p7
    replace ehc9 := ehc9.symm
    subst ehc9
    refine hd_iret pkX15_sortOf rfl ?_
    subst eQ
    refine ⟨rfl, rfl, ?_, rfl⟩
    show ((w8) = 0 ∧ (ga h 2598 w = ga h 2599 w ∨ ga h 2598 w < ga h 2599 w)) ∨ ((w8) = 1 ∧ ga h 2598 w < ga h 2599 w) ∨ ((w8) = 2 ∧ ga h 2598 w < ga h 2599 w ∧ 48 ≤ ga h 2596 (ga h 2598 w) ∧ ga h 2596 (ga h 2598 w) ≤ 57)
    rw [← qz]
    omega
  · skip
    refine hd_ipush (z := 0) pkX15_sortOf rfl ?_
    refine hd_goto pkX15_sortOf rfl ?_
    refine hd_iret pkX15_sortOf rfl ?_
    subst eQ
    refine ⟨rfl, rfl, ?_, rfl⟩
    show ((0) = 0 ∧ (ga h 2598 w = ga h 2599 w ∨ ga h 2598 w < ga h 2599 w)) ∨ ((0) = 1 ∧ ga h 2598 w < ga h 2599 w) ∨ ((0) = 2 ∧ ga h 2598 w < ga h 2599 w ∧ 48 ≤ ga h 2596 (ga h 2598 w) ∧ ga h 2596 (ga h 2598 w) ≤ 57)
    omega
set_option maxRecDepth 20000 in
set_option maxHeartbeats 8000000 in
theorem h_X15_numberOf_2596 {h : MH} {w : Int} (jj : J15 h) (hw : 0 ≤ w ∧ w ≤ 200) (g : Str t15 r15 h) : MCal KX15_numberOf yX15_numberOf 0 0 [(2, ((2595 : Nat) : Int)), (2, ((2596 : Nat) : Int)), (0, w)] h (mRI fun v h' => (v = NW (ga h 2596) (ga h 2598 w) (ga h 2599 w - ga h 2598 w).toNat) ∧ h' = h) := by
  refine MCal.ofMW (Or.inl rfl) ⟨cp_X15, rfl⟩ (Nat.le_of_ble_eq_true rfl) ?_
  generalize eQ : (mRI fun v h' => (v = NW (ga h 2596) (ga h 2598 w) (ga h 2599 w - ga h 2598 w).toNat) ∧ h' = h : MO → MH → Prop) = Q
  change MW KX15_numberOf Q 0 0 (pcA pgX15_numberOf 0) [(0, (2, ((2595 : Nat) : Int))), (1, (2, ((2596 : Nat) : Int))), (2, (0, w))] [] h
  refine hd_locI (i := 2) rfl (fun rw => ?_)
  have bb := jj.a_begins w (by omega) (by omega)
  have be := jj.a_ends w (by omega) (by omega)
  refine hd_ipush (z := 0) pkX15_numberOf rfl ?_
  refine hd_istore pkX15_numberOf rfl rfl ?_
  change MW _ _ _ _ _ [(3, (0, 0)), (0, (2, ((2595 : Nat) : Int))), (1, (2, ((2596 : Nat) : Int))), (2, (0, w))] _ _
  refine hd_aload pkX15_numberOf rfl rfl (Int.natCast_nonneg _) ?_
  refine hd_getR (n := 2598) pkX15_numberOf rfl (g.cell 0 rfl).1 (g.cell 0 rfl).2.1 (g.ref 2 rfl) ?_
  refine hd_iload pkX15_numberOf rfl rfl ?_
  refine hd_iald (n := 201) pkX15_numberOf rfl (g.cell 3 rfl) (by omega) (by omega) (fun v1 ev1 rv1 => ?_)
  have bv1 : 0 ≤ v1 ∧ v1 ≤ 200 := by rw [ev1]; exact jj.a_begins _ (by omega) (by omega)
  have qb := ev1
  refine hd_istore pkX15_numberOf rfl rfl ?_
  change MW _ _ _ _ _ [(4, (0, v1)), (3, (0, 0)), (0, (2, ((2595 : Nat) : Int))), (1, (2, ((2596 : Nat) : Int))), (2, (0, w))] _ _
  have lp7 : ∀ (N7 : Nat) (nv k : Int), (ga h 2598 w ≤ k ∧ (k ≤ ga h 2599 w ∨ k = ga h 2598 w)) → (nv = NW (ga h 2596) (ga h 2598 w) (k - ga h 2598 w).toNat) → ((201 - k) : Int) < (N7 : Int) → MW KX15_numberOf Q 0 0 (pcA pgX15_numberOf 7) [(0, (2, ((2595 : Nat) : Int))), (1, (2, ((2596 : Nat) : Int))), (2, (0, w)), (3, (0, nv)), (4, (0, k))] [] h := by
    intro N7
    induction N7 with
    | zero => intro nv k k0 nv0 hm7; exfalso; omega
    | succ N7 ih7 =>
      intro nv k k0 nv0 hm7
      refine hd_iload pkX15_numberOf rfl rfl ?_
      refine hd_aload pkX15_numberOf rfl rfl (Int.natCast_nonneg _) ?_
      refine hd_getR (n := 2599) pkX15_numberOf rfl (g.cell 0 rfl).1 (g.cell 0 rfl).2.1 (g.ref 3 rfl) ?_
      refine hd_iload pkX15_numberOf rfl rfl ?_
      refine hd_iald (n := 201) pkX15_numberOf rfl (g.cell 4 rfl) (by omega) (by omega) (fun v2 ev2 rv2 => ?_)
      have bv2 : 0 ≤ v2 ∧ v2 ≤ 200 := by rw [ev2]; exact jj.a_ends _ (by omega) (by omega)
      have qe := ev2
      refine hd_ic_ge pkX15_numberOf rfl (fun c3 => ?_) (fun c3 => ?_)
      · skip
        refine hd_iload pkX15_numberOf rfl rfl ?_
        refine hd_iret pkX15_numberOf rfl ?_
        subst eQ
        refine ⟨rfl, rfl, ?_, rfl⟩
        show (nv) = NW (ga h 2596) (ga h 2598 w) (ga h 2599 w - ga h 2598 w).toNat
        rw [nv0]
        congr 1
        omega
      · skip
        refine hd_ipush (z := 10) pkX15_numberOf rfl ?_
        refine hd_iload pkX15_numberOf rfl rfl ?_
        refine hd_imulW pkX15_numberOf rfl ?_
        generalize ez15 : (wrI (10 * nv)) = z15
        refine hd_aload pkX15_numberOf rfl rfl (Int.natCast_nonneg _) ?_
        refine hd_iload pkX15_numberOf rfl rfl ?_
        refine hd_iald (n := 200) pkX15_numberOf rfl (g.cell 1 rfl) (by omega) (by omega) (fun v4 ev4 rv4 => ?_)
        have qt := ev4
        refine hd_iaddW pkX15_numberOf rfl ?_
        generalize ez19 : (wrI (z15 + v4)) = z19
        refine hd_ipush (z := 48) pkX15_numberOf rfl ?_
        refine hd_isubW pkX15_numberOf rfl ?_
        generalize ez21 : (wrI (z19 - 48)) = z21
        refine hd_istore pkX15_numberOf rfl rfl ?_
        change MW _ _ _ _ _ [(3, (0, z21)), (0, (2, ((2595 : Nat) : Int))), (1, (2, ((2596 : Nat) : Int))), (2, (0, w)), (4, (0, k))] _ _
        refine hd_iinc (z := 1) pkX15_numberOf rfl rfl (by omega) rfl ?_
        change MW _ _ _ _ _ [(4, (0, (k + 1))), (3, (0, z21)), (0, (2, ((2595 : Nat) : Int))), (1, (2, ((2596 : Nat) : Int))), (2, (0, w))] _ _
        refine hd_goto pkX15_numberOf rfl ?_
        refine m_sub [(0, (2, ((2595 : Nat) : Int))), (1, (2, ((2596 : Nat) : Int))), (2, (0, w)), (3, (0, z21)), (4, (0, (k + 1)))] (List.forall_mem_cons.mpr ⟨rfl, List.forall_mem_cons.mpr ⟨rfl, List.forall_mem_cons.mpr ⟨rfl, List.forall_mem_cons.mpr ⟨rfl, List.forall_mem_cons.mpr ⟨rfl, fun _ h => absurd h List.not_mem_nil⟩⟩⟩⟩⟩) ?_
        refine ih7  (z21) ((k + 1)) ?_ ?_ ?_
        · omega
        · rw [show (k + 1 - ga h 2598 w).toNat = (k - ga h 2598 w).toNat + 1 by omega]
          show _ = wrI (wrI (wrI (10 * NW _ _ _) + _) - 48)
          rw [← nv0, show ga h 2598 w + (((k - ga h 2598 w).toNat : Nat) : Int) = k by omega, ← qt, ez15, ez19, ez21]
        · omega
  refine m_sub [(0, (2, ((2595 : Nat) : Int))), (1, (2, ((2596 : Nat) : Int))), (2, (0, w)), (3, (0, 0)), (4, (0, v1))] (List.forall_mem_cons.mpr ⟨rfl, List.forall_mem_cons.mpr ⟨rfl, List.forall_mem_cons.mpr ⟨rfl, List.forall_mem_cons.mpr ⟨rfl, List.forall_mem_cons.mpr ⟨rfl, fun _ h => absurd h List.not_mem_nil⟩⟩⟩⟩⟩) ?_
  refine lp7 ((((201 - (v1)) : Int)) + 1).toNat (0) (v1) ?_ ?_ ?_
  · omega
  · rw [qb, Int.sub_self]
    rfl
  · omega
set_option maxRecDepth 20000 in
set_option maxHeartbeats 8000000 in
theorem h_X15_numberOf_2597 {h : MH} {w : Int} (jj : J15 h) (hw : 0 ≤ w ∧ w ≤ 200) (g : Str t15 r15 h) : MCal KX15_numberOf yX15_numberOf 0 0 [(2, ((2595 : Nat) : Int)), (2, ((2597 : Nat) : Int)), (0, w)] h (mRI fun v h' => (v = NW (ga h 2597) (ga h 2598 w) (ga h 2599 w - ga h 2598 w).toNat) ∧ h' = h) := by
  refine MCal.ofMW (Or.inl rfl) ⟨cp_X15, rfl⟩ (Nat.le_of_ble_eq_true rfl) ?_
  generalize eQ : (mRI fun v h' => (v = NW (ga h 2597) (ga h 2598 w) (ga h 2599 w - ga h 2598 w).toNat) ∧ h' = h : MO → MH → Prop) = Q
  change MW KX15_numberOf Q 0 0 (pcA pgX15_numberOf 0) [(0, (2, ((2595 : Nat) : Int))), (1, (2, ((2597 : Nat) : Int))), (2, (0, w))] [] h
  refine hd_locI (i := 2) rfl (fun rw => ?_)
  have bb := jj.a_begins w (by omega) (by omega)
  have be := jj.a_ends w (by omega) (by omega)
  refine hd_ipush (z := 0) pkX15_numberOf rfl ?_
  refine hd_istore pkX15_numberOf rfl rfl ?_
  change MW _ _ _ _ _ [(3, (0, 0)), (0, (2, ((2595 : Nat) : Int))), (1, (2, ((2597 : Nat) : Int))), (2, (0, w))] _ _
  refine hd_aload pkX15_numberOf rfl rfl (Int.natCast_nonneg _) ?_
  refine hd_getR (n := 2598) pkX15_numberOf rfl (g.cell 0 rfl).1 (g.cell 0 rfl).2.1 (g.ref 2 rfl) ?_
  refine hd_iload pkX15_numberOf rfl rfl ?_
  refine hd_iald (n := 201) pkX15_numberOf rfl (g.cell 3 rfl) (by omega) (by omega) (fun v1 ev1 rv1 => ?_)
  have bv1 : 0 ≤ v1 ∧ v1 ≤ 200 := by rw [ev1]; exact jj.a_begins _ (by omega) (by omega)
  have qb := ev1
  refine hd_istore pkX15_numberOf rfl rfl ?_
  change MW _ _ _ _ _ [(4, (0, v1)), (3, (0, 0)), (0, (2, ((2595 : Nat) : Int))), (1, (2, ((2597 : Nat) : Int))), (2, (0, w))] _ _
  have lp7 : ∀ (N7 : Nat) (nv k : Int), (ga h 2598 w ≤ k ∧ (k ≤ ga h 2599 w ∨ k = ga h 2598 w)) → (nv = NW (ga h 2597) (ga h 2598 w) (k - ga h 2598 w).toNat) → ((201 - k) : Int) < (N7 : Int) → MW KX15_numberOf Q 0 0 (pcA pgX15_numberOf 7) [(0, (2, ((2595 : Nat) : Int))), (1, (2, ((2597 : Nat) : Int))), (2, (0, w)), (3, (0, nv)), (4, (0, k))] [] h := by
    intro N7
    induction N7 with
    | zero => intro nv k k0 nv0 hm7; exfalso; omega
    | succ N7 ih7 =>
      intro nv k k0 nv0 hm7
      refine hd_iload pkX15_numberOf rfl rfl ?_
      refine hd_aload pkX15_numberOf rfl rfl (Int.natCast_nonneg _) ?_
      refine hd_getR (n := 2599) pkX15_numberOf rfl (g.cell 0 rfl).1 (g.cell 0 rfl).2.1 (g.ref 3 rfl) ?_
      refine hd_iload pkX15_numberOf rfl rfl ?_
      refine hd_iald (n := 201) pkX15_numberOf rfl (g.cell 4 rfl) (by omega) (by omega) (fun v2 ev2 rv2 => ?_)
      have bv2 : 0 ≤ v2 ∧ v2 ≤ 200 := by rw [ev2]; exact jj.a_ends _ (by omega) (by omega)
      have qe := ev2
      refine hd_ic_ge pkX15_numberOf rfl (fun c3 => ?_) (fun c3 => ?_)
      · skip
        refine hd_iload pkX15_numberOf rfl rfl ?_
        refine hd_iret pkX15_numberOf rfl ?_
        subst eQ
        refine ⟨rfl, rfl, ?_, rfl⟩
        show (nv) = NW (ga h 2597) (ga h 2598 w) (ga h 2599 w - ga h 2598 w).toNat
        rw [nv0]
        congr 1
        omega
      · skip
        refine hd_ipush (z := 10) pkX15_numberOf rfl ?_
        refine hd_iload pkX15_numberOf rfl rfl ?_
        refine hd_imulW pkX15_numberOf rfl ?_
        generalize ez15 : (wrI (10 * nv)) = z15
        refine hd_aload pkX15_numberOf rfl rfl (Int.natCast_nonneg _) ?_
        refine hd_iload pkX15_numberOf rfl rfl ?_
        refine hd_iald (n := 200) pkX15_numberOf rfl (g.cell 2 rfl) (by omega) (by omega) (fun v4 ev4 rv4 => ?_)
        have qt := ev4
        refine hd_iaddW pkX15_numberOf rfl ?_
        generalize ez19 : (wrI (z15 + v4)) = z19
        refine hd_ipush (z := 48) pkX15_numberOf rfl ?_
        refine hd_isubW pkX15_numberOf rfl ?_
        generalize ez21 : (wrI (z19 - 48)) = z21
        refine hd_istore pkX15_numberOf rfl rfl ?_
        change MW _ _ _ _ _ [(3, (0, z21)), (0, (2, ((2595 : Nat) : Int))), (1, (2, ((2597 : Nat) : Int))), (2, (0, w)), (4, (0, k))] _ _
        refine hd_iinc (z := 1) pkX15_numberOf rfl rfl (by omega) rfl ?_
        change MW _ _ _ _ _ [(4, (0, (k + 1))), (3, (0, z21)), (0, (2, ((2595 : Nat) : Int))), (1, (2, ((2597 : Nat) : Int))), (2, (0, w))] _ _
        refine hd_goto pkX15_numberOf rfl ?_
        refine m_sub [(0, (2, ((2595 : Nat) : Int))), (1, (2, ((2597 : Nat) : Int))), (2, (0, w)), (3, (0, z21)), (4, (0, (k + 1)))] (List.forall_mem_cons.mpr ⟨rfl, List.forall_mem_cons.mpr ⟨rfl, List.forall_mem_cons.mpr ⟨rfl, List.forall_mem_cons.mpr ⟨rfl, List.forall_mem_cons.mpr ⟨rfl, fun _ h => absurd h List.not_mem_nil⟩⟩⟩⟩⟩) ?_
        refine ih7  (z21) ((k + 1)) ?_ ?_ ?_
        · omega
        · rw [show (k + 1 - ga h 2598 w).toNat = (k - ga h 2598 w).toNat + 1 by omega]
          show _ = wrI (wrI (wrI (10 * NW _ _ _) + _) - 48)
          rw [← nv0, show ga h 2598 w + (((k - ga h 2598 w).toNat : Nat) : Int) = k by omega, ← qt, ez15, ez19, ez21]
        · omega
  refine m_sub [(0, (2, ((2595 : Nat) : Int))), (1, (2, ((2597 : Nat) : Int))), (2, (0, w)), (3, (0, 0)), (4, (0, v1))] (List.forall_mem_cons.mpr ⟨rfl, List.forall_mem_cons.mpr ⟨rfl, List.forall_mem_cons.mpr ⟨rfl, List.forall_mem_cons.mpr ⟨rfl, List.forall_mem_cons.mpr ⟨rfl, fun _ h => absurd h List.not_mem_nil⟩⟩⟩⟩⟩) ?_
  refine lp7 ((((201 - (v1)) : Int)) + 1).toNat (0) (v1) ?_ ?_ ?_
  · omega
  · rw [qb, Int.sub_self]
    rfl
  · omega
