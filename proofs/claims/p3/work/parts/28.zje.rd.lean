/-! X0 by hand: signs -/
set_option maxRecDepth 20000 in
set_option maxHeartbeats 8000000 in
theorem h_X0_signAt {h : MH} {i : Int} (sb : 0 ≤ ga h 161 8 ∧ ga h 161 8 ≤ 50) (g : StrZ zT h) : MCal KX0_signAt yX0_signAt 0 0 [(2, ((161 : Nat) : Int)), (0, i)] h (mRI fun v h' => (v = sg0 h i ∧ 0 ≤ v ∧ v ≤ 65535) ∧ h' = h) := by
  refine MCal.ofMW (Or.inl rfl) ⟨cp_X0, rfl⟩ (Nat.le_of_ble_eq_true rfl) ?_
  generalize eQ : (mRI fun v h' => (v = sg0 h i ∧ 0 ≤ v ∧ v ≤ 65535) ∧ h' = h : MO → MH → Prop) = Q
  change MW KX0_signAt Q 0 0 (pcA pgX0_signAt 0) [(0, (2, ((161 : Nat) : Int))), (1, (0, i))] [] h
  refine hd_locI (i := 1) rfl (fun ri => ?_)
  refine hd_iload pkX0_signAt rfl rfl ?_
  refine hd_if_lt pkX0_signAt rfl (fun c1 => ?_) (fun c1 => ?_)
  · skip
    refine hd_ipush (z := 0) pkX0_signAt rfl ?_
    refine hd_cret pkX0_signAt rfl (by omega) ?_
    subst eQ
    refine ⟨rfl, rfl, ⟨?_, (by show (0 : Int) ≤ 0 ∧ (0 : Int) ≤ 65535; omega)⟩, rfl⟩
    show _ = sg0 h i
    unfold sg0
    rw [if_neg (by omega)]
  · skip
    refine hd_iload pkX0_signAt rfl rfl ?_
    refine hd_aload pkX0_signAt rfl rfl (Int.natCast_nonneg _) ?_
    refine hd_getI pkX0_signAt rfl (st_cell g (k := 16) (n := 0) (by decide +kernel)).1 (st_cell g (k := 16) (n := 0) (by decide +kernel)).2.1 (fun v2 ev2 rv2 => ?_)
    replace ev2 : v2 = ga h 161 8 := ev2
    refine hd_ic_ge pkX0_signAt rfl (fun c3 => ?_) (fun c3 => ?_)
    · skip
      refine hd_ipush (z := 0) pkX0_signAt rfl ?_
      refine hd_cret pkX0_signAt rfl (by omega) ?_
      subst eQ
      refine ⟨rfl, rfl, ⟨?_, (by show (0 : Int) ≤ 0 ∧ (0 : Int) ≤ 65535; omega)⟩, rfl⟩
      show _ = sg0 h i
      unfold sg0
      rw [if_neg (by omega)]
    · skip
      refine hd_aload pkX0_signAt rfl rfl (Int.natCast_nonneg _) ?_
      refine hd_getR (n := 179) pkX0_signAt rfl (st_cell g (k := 16) (n := 0) (by decide +kernel)).1 (st_cell g (k := 16) (n := 0) (by decide +kernel)).2.1 (st_ref g (by decide +kernel)) ?_
      refine hd_iload pkX0_signAt rfl rfl ?_
      refine hd_cald (n := 50) pkX0_signAt rfl (st_cell g (c := 179) (k := 4) (n := 50) (by decide +kernel)) (by omega) (by omega) (fun v4 ev4 rv4 => ?_)
      refine hd_goto pkX0_signAt rfl ?_
      refine hd_cret pkX0_signAt rfl (by omega) ?_
      subst eQ
      refine ⟨rfl, rfl, ⟨?_, (by show (0 : Int) ≤ v4 ∧ (v4 : Int) ≤ 65535; omega)⟩, rfl⟩
      show _ = sg0 h i
      unfold sg0
      rw [if_pos (by omega)]
      assumption
set_option maxRecDepth 20000 in
set_option maxHeartbeats 8000000 in
theorem h_X0_isNode {h : MH} {c : Int}  : MCal KX0_isNode yX0_isNode 0 0 [(0, c)] h (mRI fun v h' => (0 ≤ v ∧ v ≤ 1) ∧ h' = h) := by
  refine MCal.ofMW (Or.inl rfl) ⟨cp_X0, rfl⟩ (Nat.le_of_ble_eq_true rfl) ?_
  generalize eQ : (mRI fun v h' => (0 ≤ v ∧ v ≤ 1) ∧ h' = h : MO → MH → Prop) = Q
  change MW KX0_isNode Q 0 0 (pcA pgX0_isNode 0) [(0, (0, c))] [] h
  refine hd_locI (i := 0) rfl (fun rc => ?_)
  refine hd_iload pkX0_isNode rfl rfl ?_
  refine hd_ipush (z := 46) pkX0_isNode rfl ?_
  refine hd_ic_eq pkX0_isNode rfl (fun c1 => ?_) (fun c1 => ?_)
  · skip
    refine hd_ipush (z := 1) pkX0_isNode rfl ?_
    refine hd_goto pkX0_isNode rfl ?_
    refine hd_zret pkX0_isNode rfl (by omega) ?_
    subst eQ
    refine ⟨rfl, rfl, ?_, rfl⟩
    show (0 : Int) ≤ 1 ∧ (1 : Int) ≤ 1
    omega
  · skip
    refine hd_iload pkX0_isNode rfl rfl ?_
    refine hd_ipush (z := 83) pkX0_isNode rfl ?_
    refine hd_ic_eq pkX0_isNode rfl (fun c2 => ?_) (fun c2 => ?_)
    · skip
      refine hd_ipush (z := 1) pkX0_isNode rfl ?_
      refine hd_goto pkX0_isNode rfl ?_
      refine hd_zret pkX0_isNode rfl (by omega) ?_
      subst eQ
      refine ⟨rfl, rfl, ?_, rfl⟩
      show (0 : Int) ≤ 1 ∧ (1 : Int) ≤ 1
      omega
    · skip
      refine hd_iload pkX0_isNode rfl rfl ?_
      refine hd_ipush (z := 84) pkX0_isNode rfl ?_
      refine hd_ic_eq pkX0_isNode rfl (fun c3 => ?_) (fun c3 => ?_)
      · skip
        refine hd_ipush (z := 1) pkX0_isNode rfl ?_
        refine hd_goto pkX0_isNode rfl ?_
        refine hd_zret pkX0_isNode rfl (by omega) ?_
        subst eQ
        refine ⟨rfl, rfl, ?_, rfl⟩
        show (0 : Int) ≤ 1 ∧ (1 : Int) ≤ 1
        omega
      · skip
        refine hd_iload pkX0_isNode rfl rfl ?_
        refine hd_ipush (z := 70) pkX0_isNode rfl ?_
        refine hd_ic_ne pkX0_isNode rfl (fun c4 => ?_) (fun c4 => ?_)
        · skip
          refine hd_ipush (z := 0) pkX0_isNode rfl ?_
          refine hd_zret pkX0_isNode rfl (by omega) ?_
          subst eQ
          refine ⟨rfl, rfl, ?_, rfl⟩
          show (0 : Int) ≤ 0 ∧ (0 : Int) ≤ 1
          omega
        · skip
          refine hd_ipush (z := 1) pkX0_isNode rfl ?_
          refine hd_goto pkX0_isNode rfl ?_
          refine hd_zret pkX0_isNode rfl (by omega) ?_
          subst eQ
          refine ⟨rfl, rfl, ?_, rfl⟩
          show (0 : Int) ≤ 1 ∧ (1 : Int) ≤ 1
          omega
set_option maxRecDepth 20000 in
set_option maxHeartbeats 8000000 in
theorem h_X0_numberAt {h : MH} {i : Int} (ib : 0 ≤ i ∧ i ≤ 1000) (sb : 0 ≤ ga h 161 8 ∧ ga h 161 8 ≤ 50) (g : StrZ zT h) : MCal KX0_numberAt yX0_numberAt 0 0 [(2, ((161 : Nat) : Int)), (0, i)] h (mRI fun v h' => (v = nA0 h i ∧ (0 ≤ v ∧ v ≤ 12) ∧ (v ≠ 0 → i < ga h 161 8)) ∧ h' = h) := by
  refine MCal.ofMW (Or.inl rfl) ⟨cp_X0, rfl⟩ (Nat.le_of_ble_eq_true rfl) ?_
  generalize eQ : (mRI fun v h' => (v = nA0 h i ∧ (0 ≤ v ∧ v ≤ 12) ∧ (v ≠ 0 → i < ga h 161 8)) ∧ h' = h : MO → MH → Prop) = Q
  change MW KX0_numberAt Q 0 0 (pcA pgX0_numberAt 0) [(0, (2, ((161 : Nat) : Int))), (1, (0, i))] [] h
  refine hd_locI (i := 1) rfl (fun ri => ?_)
  refine hd_aload pkX0_numberAt rfl rfl (Int.natCast_nonneg _) ?_
  refine hd_iload pkX0_numberAt rfl rfl ?_
  refine hd_callV pkX0_numberAt rfl (q := (KX0_signAt, yX0_signAt, 0, 1, 0)) rfl rfl rfl (As := [(0, i)]) (rest := []) (c := 161) rfl rfl (Nat.le_of_ble_eq_true rfl) (st_cell g (k := 16) (n := 0) (by decide +kernel)).1 (st_cell g (k := 16) (n := 0) (by decide +kernel)).2.1 (h_X0_signAt sb g) (hd_bI (fun x hc1 px => ?_))
  obtain ⟨px, ehc1⟩ := px
  replace ehc1 := ehc1.symm
  subst ehc1
  refine hd_ipush (z := 48) pkX0_numberAt rfl ?_
  refine hd_isub pkX0_numberAt rfl (by omega) ?_
  refine hd_istore pkX0_numberAt rfl rfl ?_
  change MW _ _ _ _ _ [(2, (0, (x - 48))), (0, (2, ((161 : Nat) : Int))), (1, (0, i))] _ _
  refine hd_aload pkX0_numberAt rfl rfl (Int.natCast_nonneg _) ?_
  refine hd_iload pkX0_numberAt rfl rfl ?_
  refine hd_ipush (z := 1) pkX0_numberAt rfl ?_
  refine hd_iadd pkX0_numberAt rfl (by omega) ?_
  refine hd_callV pkX0_numberAt rfl (q := (KX0_signAt, yX0_signAt, 0, 1, 0)) rfl rfl rfl (As := [(0, (i + 1))]) (rest := []) (c := 161) rfl rfl (Nat.le_of_ble_eq_true rfl) (st_cell g (k := 16) (n := 0) (by decide +kernel)).1 (st_cell g (k := 16) (n := 0) (by decide +kernel)).2.1 (h_X0_signAt sb g) (hd_bI (fun y hc2 py => ?_))
  obtain ⟨py, ehc2⟩ := py
  replace ehc2 := ehc2.symm
  subst ehc2
  refine hd_ipush (z := 48) pkX0_numberAt rfl ?_
  refine hd_isub pkX0_numberAt rfl (by omega) ?_
  refine hd_istore pkX0_numberAt rfl rfl ?_
  change MW _ _ _ _ _ [(3, (0, (y - 48))), (2, (0, (x - 48))), (0, (2, ((161 : Nat) : Int))), (1, (0, i))] _ _
  refine hd_iload pkX0_numberAt rfl rfl ?_
  refine hd_ipush (z := 1) pkX0_numberAt rfl ?_
  refine hd_ic_lt pkX0_numberAt rfl (fun c3 => ?_) (fun c3 => ?_)
  · skip
    refine hd_ipush (z := 0) pkX0_numberAt rfl ?_
    refine hd_iret pkX0_numberAt rfl ?_
    subst eQ
    refine ⟨rfl, rfl, ⟨?_, (by show (0 : Int) ≤ 0 ∧ (0 : Int) ≤ 12; omega), fun w => ?_⟩, rfl⟩
    · show (0 : Int) = nA0 h i
      unfold nA0
      rw [← px.1, ← py.1]
      (repeat' split) <;> omega
    · replace w : (0 : Int) ≠ 0 := w
      have z := px.1
      unfold sg0 at z
      split at z <;> omega
  · skip
    refine hd_iload pkX0_numberAt rfl rfl ?_
    refine hd_ipush (z := 9) pkX0_numberAt rfl ?_
    refine hd_ic_le pkX0_numberAt rfl (fun c4 => ?_) (fun c4 => ?_)
    · skip
      refine hd_iload pkX0_numberAt rfl rfl ?_
      refine hd_if_lt pkX0_numberAt rfl (fun c5 => ?_) (fun c5 => ?_)
      · skip
        refine hd_iload pkX0_numberAt rfl rfl ?_
        refine hd_istore pkX0_numberAt rfl rfl ?_
        change MW _ _ _ _ _ [(4, (0, (x - 48))), (3, (0, (y - 48))), (2, (0, (x - 48))), (0, (2, ((161 : Nat) : Int))), (1, (0, i))] _ _
        refine hd_iload pkX0_numberAt rfl rfl ?_
        refine hd_ipush (z := 12) pkX0_numberAt rfl ?_
        refine hd_ic_gt pkX0_numberAt rfl (fun c6 => ?_) (fun c6 => ?_)
        · skip
          refine hd_ipush (z := 0) pkX0_numberAt rfl ?_
          refine hd_iret pkX0_numberAt rfl ?_
          subst eQ
          refine ⟨rfl, rfl, ⟨?_, (by show (0 : Int) ≤ 0 ∧ (0 : Int) ≤ 12; omega), fun w => ?_⟩, rfl⟩
          · show (0 : Int) = nA0 h i
            unfold nA0
            rw [← px.1, ← py.1]
            (repeat' split) <;> omega
          · replace w : (0 : Int) ≠ 0 := w
            have z := px.1
            unfold sg0 at z
            split at z <;> omega
        · skip
          refine hd_iload pkX0_numberAt rfl rfl ?_
          refine hd_goto pkX0_numberAt rfl ?_
          refine hd_iret pkX0_numberAt rfl ?_
          subst eQ
          refine ⟨rfl, rfl, ⟨?_, (by show (0 : Int) ≤ (x - 48) ∧ ((x - 48) : Int) ≤ 12; omega), fun w => ?_⟩, rfl⟩
          · show ((x - 48) : Int) = nA0 h i
            unfold nA0
            rw [← px.1, ← py.1]
            (repeat' split) <;> omega
          · replace w : ((x - 48) : Int) ≠ 0 := w
            have z := px.1
            unfold sg0 at z
            split at z <;> omega
      · skip
        refine hd_iload pkX0_numberAt rfl rfl ?_
        refine hd_ipush (z := 9) pkX0_numberAt rfl ?_
        refine hd_ic_gt pkX0_numberAt rfl (fun c7 => ?_) (fun c7 => ?_)
        · skip
          refine hd_iload pkX0_numberAt rfl rfl ?_
          refine hd_istore pkX0_numberAt rfl rfl ?_
          change MW _ _ _ _ _ [(4, (0, (x - 48))), (3, (0, (y - 48))), (2, (0, (x - 48))), (0, (2, ((161 : Nat) : Int))), (1, (0, i))] _ _
          refine hd_iload pkX0_numberAt rfl rfl ?_
          refine hd_ipush (z := 12) pkX0_numberAt rfl ?_
          refine hd_ic_gt pkX0_numberAt rfl (fun c8 => ?_) (fun c8 => ?_)
          · skip
            refine hd_ipush (z := 0) pkX0_numberAt rfl ?_
            refine hd_iret pkX0_numberAt rfl ?_
            subst eQ
            refine ⟨rfl, rfl, ⟨?_, (by show (0 : Int) ≤ 0 ∧ (0 : Int) ≤ 12; omega), fun w => ?_⟩, rfl⟩
            · show (0 : Int) = nA0 h i
              unfold nA0
              rw [← px.1, ← py.1]
              (repeat' split) <;> omega
            · replace w : (0 : Int) ≠ 0 := w
              have z := px.1
              unfold sg0 at z
              split at z <;> omega
          · skip
            refine hd_iload pkX0_numberAt rfl rfl ?_
            refine hd_goto pkX0_numberAt rfl ?_
            refine hd_iret pkX0_numberAt rfl ?_
            subst eQ
            refine ⟨rfl, rfl, ⟨?_, (by show (0 : Int) ≤ (x - 48) ∧ ((x - 48) : Int) ≤ 12; omega), fun w => ?_⟩, rfl⟩
            · show ((x - 48) : Int) = nA0 h i
              unfold nA0
              rw [← px.1, ← py.1]
              (repeat' split) <;> omega
            · replace w : ((x - 48) : Int) ≠ 0 := w
              have z := px.1
              unfold sg0 at z
              split at z <;> omega
        · skip
          refine hd_ipush (z := 10) pkX0_numberAt rfl ?_
          refine hd_iload pkX0_numberAt rfl rfl ?_
          refine hd_imul pkX0_numberAt rfl (by omega) ?_
          refine hd_iload pkX0_numberAt rfl rfl ?_
          refine hd_iadd pkX0_numberAt rfl (by omega) ?_
          refine hd_goto pkX0_numberAt rfl ?_
          refine hd_istore pkX0_numberAt rfl rfl ?_
          change MW _ _ _ _ _ [(4, (0, ((10 * (x - 48)) + (y - 48)))), (3, (0, (y - 48))), (2, (0, (x - 48))), (0, (2, ((161 : Nat) : Int))), (1, (0, i))] _ _
          refine hd_iload pkX0_numberAt rfl rfl ?_
          refine hd_ipush (z := 12) pkX0_numberAt rfl ?_
          refine hd_ic_gt pkX0_numberAt rfl (fun c9 => ?_) (fun c9 => ?_)
          · skip
            refine hd_ipush (z := 0) pkX0_numberAt rfl ?_
            refine hd_iret pkX0_numberAt rfl ?_
            subst eQ
            refine ⟨rfl, rfl, ⟨?_, (by show (0 : Int) ≤ 0 ∧ (0 : Int) ≤ 12; omega), fun w => ?_⟩, rfl⟩
            · show (0 : Int) = nA0 h i
              unfold nA0
              rw [← px.1, ← py.1]
              (repeat' split) <;> omega
            · replace w : (0 : Int) ≠ 0 := w
              have z := px.1
              unfold sg0 at z
              split at z <;> omega
          · skip
            refine hd_iload pkX0_numberAt rfl rfl ?_
            refine hd_goto pkX0_numberAt rfl ?_
            refine hd_iret pkX0_numberAt rfl ?_
            subst eQ
            refine ⟨rfl, rfl, ⟨?_, (by show (0 : Int) ≤ ((10 * (x - 48)) + (y - 48)) ∧ (((10 * (x - 48)) + (y - 48)) : Int) ≤ 12; omega), fun w => ?_⟩, rfl⟩
            · show (((10 * (x - 48)) + (y - 48)) : Int) = nA0 h i
              unfold nA0
              rw [← px.1, ← py.1]
              (repeat' split) <;> omega
            · replace w : (((10 * (x - 48)) + (y - 48)) : Int) ≠ 0 := w
              have z := px.1
              unfold sg0 at z
              split at z <;> omega
    · skip
      refine hd_ipush (z := 0) pkX0_numberAt rfl ?_
      refine hd_iret pkX0_numberAt rfl ?_
      subst eQ
      refine ⟨rfl, rfl, ⟨?_, (by show (0 : Int) ≤ 0 ∧ (0 : Int) ≤ 12; omega), fun w => ?_⟩, rfl⟩
      · show (0 : Int) = nA0 h i
        unfold nA0
        rw [← px.1, ← py.1]
        (repeat' split) <;> omega
      · replace w : (0 : Int) ≠ 0 := w
        have z := px.1
        unfold sg0 at z
        split at z <;> omega
set_option maxRecDepth 20000 in
set_option maxHeartbeats 8000000 in
theorem h_X0_wrongSign {h : MH} (sb : 0 ≤ ga h 161 8 ∧ ga h 161 8 ≤ 50) (g : StrZ zT h) : MCal KX0_wrongSign yX0_wrongSign 0 0 [(2, ((161 : Nat) : Int))] h (mRI fun v h' => ((-1 ≤ v ∧ v ≤ 100) ∧ (v < 0 → OKT h 3 1 ∧ 1 < ga h 161 8)) ∧ h' = h) := by
  refine MCal.ofMW (Or.inl rfl) ⟨cp_X0, rfl⟩ (Nat.le_of_ble_eq_true rfl) ?_
  generalize eQ : (mRI fun v h' => ((-1 ≤ v ∧ v ≤ 100) ∧ (v < 0 → OKT h 3 1 ∧ 1 < ga h 161 8)) ∧ h' = h : MO → MH → Prop) = Q
  change MW KX0_wrongSign Q 0 0 (pcA pgX0_wrongSign 0) [(0, (2, ((161 : Nat) : Int)))] [] h
  refine hd_ipush (z := 0) pkX0_wrongSign rfl ?_
  refine hd_istore pkX0_wrongSign rfl rfl ?_
  change MW _ _ _ _ _ [(1, (0, 0)), (0, (2, ((161 : Nat) : Int)))] _ _
  refine hd_aload pkX0_wrongSign rfl rfl (Int.natCast_nonneg _) ?_
  refine hd_iload pkX0_wrongSign rfl rfl ?_
  refine hd_callV pkX0_wrongSign rfl (q := (KX0_signAt, yX0_signAt, 0, 1, 0)) rfl rfl rfl (As := [(0, 0)]) (rest := []) (c := 161) rfl rfl (Nat.le_of_ble_eq_true rfl) (st_cell g (k := 16) (n := 0) (by decide +kernel)).1 (st_cell g (k := 16) (n := 0) (by decide +kernel)).2.1 (h_X0_signAt sb g) (hd_bI (fun x4 hc1 px4 => ?_))
  obtain ⟨px4, ehc1⟩ := px4
  replace ehc1 := ehc1.symm
  subst ehc1
  refine hd_callS pkX0_wrongSign rfl (q := (KX0_isNode, yX0_isNode, 0, 1, 1)) rfl rfl rfl (As := [(0, x4)]) (rest := []) rfl rfl (Nat.le_of_ble_eq_true rfl) rfl (h_X0_isNode) (hd_bI (fun w2 hc3 p4 => ?_))
  obtain ⟨p4, ehc3⟩ := p4
  replace ehc3 := ehc3.symm
  subst ehc3
  refine hd_if_ne pkX0_wrongSign rfl (fun c5 => ?_) (fun c5 => ?_)
  · skip
    refine hd_iinc (z := 1) pkX0_wrongSign rfl rfl (by omega) rfl ?_
    change MW _ _ _ _ _ [(1, (0, (0 + 1))), (0, (2, ((161 : Nat) : Int)))] _ _
    refine hd_ipush (z := 0) pkX0_wrongSign rfl ?_
    refine hd_istore pkX0_wrongSign rfl rfl ?_
    change MW _ _ _ _ _ [(2, (0, 0)), (1, (0, (0 + 1))), (0, (2, ((161 : Nat) : Int)))] _ _
    have lp12 : ∀ (N12 : Nat) (i b : Int), (1 ≤ i ∧ i ≤ 1 + 8 * b) → (0 ≤ b ∧ b ≤ 3) → (1 + b ≤ i) → (OKT h (3 - b).toNat i → OKT h 3 1) → (3 : Int) - b < (N12 : Int) → MW KX0_wrongSign Q 0 0 (pcA pgX0_wrongSign 12) [(0, (2, ((161 : Nat) : Int))), (1, (0, i)), (2, (0, b))] [] h := by
      intro N12
      induction N12 with
      | zero => intro i b ib bb i2 okt hm12; exfalso; omega
      | succ N12 ih12 =>
        intro i b ib bb i2 okt hm12
        refine hd_iload pkX0_wrongSign rfl rfl ?_
        refine hd_ipush (z := 3) pkX0_wrongSign rfl ?_
        refine hd_ic_ge pkX0_wrongSign rfl (fun c6 => ?_) (fun c6 => ?_)
        · skip
          refine hd_iload pkX0_wrongSign rfl rfl ?_
          refine hd_aload pkX0_wrongSign rfl rfl (Int.natCast_nonneg _) ?_
          refine hd_getI pkX0_wrongSign rfl (st_cell g (k := 16) (n := 0) (by decide +kernel)).1 (st_cell g (k := 16) (n := 0) (by decide +kernel)).2.1 (fun v7 ev7 rv7 => ?_)
          replace ev7 : v7 = ga h 161 8 := ev7
          have esv7 := ev7
          refine hd_ic_ne pkX0_wrongSign rfl (fun c8 => ?_) (fun c8 => ?_)
          · skip
            refine hd_iload pkX0_wrongSign rfl rfl ?_
            refine hd_iret pkX0_wrongSign rfl ?_
            subst eQ
            exact ⟨rfl, rfl, ⟨(by show (-1 : Int) ≤ i ∧ (i : Int) ≤ 100; omega), fun w => absurd (show (i : Int) < 0 from w) (by omega)⟩, rfl⟩
          · skip
            refine hd_ipush (z := (-1)) pkX0_wrongSign rfl ?_
            refine hd_goto pkX0_wrongSign rfl ?_
            refine hd_iret pkX0_wrongSign rfl ?_
            subst eQ
            exact ⟨rfl, rfl, ⟨(by show (-1 : Int) ≤ (-1) ∧ ((-1) : Int) ≤ 100; omega), fun _ => ⟨okt (by rw [show (3 - b).toNat = 0 by omega]; trivial), by omega⟩⟩, rfl⟩
        · skip
          refine hd_iload pkX0_wrongSign rfl rfl ?_
          refine hd_aload pkX0_wrongSign rfl rfl (Int.natCast_nonneg _) ?_
          refine hd_getI pkX0_wrongSign rfl (st_cell g (k := 16) (n := 0) (by decide +kernel)).1 (st_cell g (k := 16) (n := 0) (by decide +kernel)).2.1 (fun v9 ev9 rv9 => ?_)
          replace ev9 : v9 = ga h 161 8 := ev9
          have esv9 := ev9
          refine hd_ic_ne pkX0_wrongSign rfl (fun c10 => ?_) (fun c10 => ?_)
          · skip
            refine hd_iload pkX0_wrongSign rfl rfl ?_
            refine hd_aload pkX0_wrongSign rfl rfl (Int.natCast_nonneg _) ?_
            refine hd_iload pkX0_wrongSign rfl rfl ?_
            refine hd_callV pkX0_wrongSign rfl (q := (KX0_signAt, yX0_signAt, 0, 1, 0)) rfl rfl rfl (As := [(0, i)]) (rest := [(0, i)]) (c := 161) rfl rfl (Nat.le_of_ble_eq_true rfl) (st_cell g (k := 16) (n := 0) (by decide +kernel)).1 (st_cell g (k := 16) (n := 0) (by decide +kernel)).2.1 (h_X0_signAt sb g) (hd_bI (fun x26 hc11 px26 => ?_))
            obtain ⟨px26, ehc11⟩ := px26
            replace ehc11 := ehc11.symm
            subst ehc11
            refine hd_ipush (z := 104) pkX0_wrongSign rfl ?_
            have cut32 : ∀ (hv : Int), (hv = hb0 h (i)) → (0 ≤ hv ∧ hv ≤ 1) → MW KX0_wrongSign Q 0 0 (pcA pgX0_wrongSign 32) [(0, (2, ((161 : Nat) : Int))), (1, (0, i)), (2, (0, b))] [(0, hv), (0, i)] h := by
              intro hv hvv hvb
              refine hd_iadd pkX0_wrongSign rfl (by omega) ?_
              refine hd_istore pkX0_wrongSign rfl rfl ?_
              change MW _ _ _ _ _ [(1, (0, (i + hv))), (0, (2, ((161 : Nat) : Int))), (2, (0, b))] _ _
              refine hd_aload pkX0_wrongSign rfl rfl (Int.natCast_nonneg _) ?_
              refine hd_iload pkX0_wrongSign rfl rfl ?_
              refine hd_callV pkX0_wrongSign rfl (q := (KX0_numberAt, yX0_numberAt, 0, 1, 0)) rfl rfl rfl (As := [(0, (i + hv))]) (rest := []) (c := 161) rfl rfl (Nat.le_of_ble_eq_true rfl) (st_cell g (k := 16) (n := 0) (by decide +kernel)).1 (st_cell g (k := 16) (n := 0) (by decide +kernel)).2.1 (h_X0_numberAt ⟨by omega, by omega⟩ sb g) (hd_bI (fun n36 hc12 pn36 => ?_))
              obtain ⟨pn36, ehc12⟩ := pn36
              replace ehc12 := ehc12.symm
              subst ehc12
              refine hd_if_ne pkX0_wrongSign rfl (fun c13 => ?_) (fun c13 => ?_)
              · skip
                refine hd_iload pkX0_wrongSign rfl rfl ?_
                refine hd_aload pkX0_wrongSign rfl rfl (Int.natCast_nonneg _) ?_
                refine hd_iload pkX0_wrongSign rfl rfl ?_
                refine hd_callV pkX0_wrongSign rfl (q := (KX0_numberAt, yX0_numberAt, 0, 1, 0)) rfl rfl rfl (As := [(0, (i + hv))]) (rest := [(0, (i + hv))]) (c := 161) rfl rfl (Nat.le_of_ble_eq_true rfl) (st_cell g (k := 16) (n := 0) (by decide +kernel)).1 (st_cell g (k := 16) (n := 0) (by decide +kernel)).2.1 (h_X0_numberAt ⟨by omega, by omega⟩ sb g) (hd_bI (fun n43 hc14 pn43 => ?_))
                obtain ⟨pn43, ehc14⟩ := pn43
                replace ehc14 := ehc14.symm
                subst ehc14
                refine hd_ipush (z := 9) pkX0_wrongSign rfl ?_
                have cut49 : ∀ (l1 : Int), (l1 = ln0 h (i + hv)) → (1 ≤ l1 ∧ l1 ≤ 2) → MW KX0_wrongSign Q 0 0 (pcA pgX0_wrongSign 49) [(0, (2, ((161 : Nat) : Int))), (1, (0, (i + hv))), (2, (0, b))] [(0, l1), (0, (i + hv))] h := by
                  intro l1 l1v l1b
                  refine hd_iadd pkX0_wrongSign rfl (by omega) ?_
                  refine hd_istore pkX0_wrongSign rfl rfl ?_
                  change MW _ _ _ _ _ [(1, (0, ((i + hv) + l1))), (0, (2, ((161 : Nat) : Int))), (2, (0, b))] _ _
                  refine hd_aload pkX0_wrongSign rfl rfl (Int.natCast_nonneg _) ?_
                  refine hd_iload pkX0_wrongSign rfl rfl ?_
                  refine hd_callV pkX0_wrongSign rfl (q := (KX0_signAt, yX0_signAt, 0, 1, 0)) rfl rfl rfl (As := [(0, ((i + hv) + l1))]) (rest := []) (c := 161) rfl rfl (Nat.le_of_ble_eq_true rfl) (st_cell g (k := 16) (n := 0) (by decide +kernel)).1 (st_cell g (k := 16) (n := 0) (by decide +kernel)).2.1 (h_X0_signAt sb g) (hd_bI (fun x53 hc15 px53 => ?_))
                  obtain ⟨px53, ehc15⟩ := px53
                  replace ehc15 := ehc15.symm
                  subst ehc15
                  refine hd_ipush (z := 120) pkX0_wrongSign rfl ?_
                  refine hd_ic_eq pkX0_wrongSign rfl (fun c16 => ?_) (fun c16 => ?_)
                  · skip
                    refine hd_iinc (z := 1) pkX0_wrongSign rfl rfl (by omega) rfl ?_
                    change MW _ _ _ _ _ [(1, (0, (((i + hv) + l1) + 1))), (0, (2, ((161 : Nat) : Int))), (2, (0, b))] _ _
                    refine hd_aload pkX0_wrongSign rfl rfl (Int.natCast_nonneg _) ?_
                    refine hd_iload pkX0_wrongSign rfl rfl ?_
                    refine hd_callV pkX0_wrongSign rfl (q := (KX0_numberAt, yX0_numberAt, 0, 1, 0)) rfl rfl rfl (As := [(0, (((i + hv) + l1) + 1))]) (rest := []) (c := 161) rfl rfl (Nat.le_of_ble_eq_true rfl) (st_cell g (k := 16) (n := 0) (by decide +kernel)).1 (st_cell g (k := 16) (n := 0) (by decide +kernel)).2.1 (h_X0_numberAt ⟨by omega, by omega⟩ sb g) (hd_bI (fun n61 hc17 pn61 => ?_))
                    obtain ⟨pn61, ehc17⟩ := pn61
                    replace ehc17 := ehc17.symm
                    subst ehc17
                    refine hd_if_ne pkX0_wrongSign rfl (fun c18 => ?_) (fun c18 => ?_)
                    · skip
                      refine hd_iload pkX0_wrongSign rfl rfl ?_
                      refine hd_aload pkX0_wrongSign rfl rfl (Int.natCast_nonneg _) ?_
                      refine hd_iload pkX0_wrongSign rfl rfl ?_
                      refine hd_callV pkX0_wrongSign rfl (q := (KX0_numberAt, yX0_numberAt, 0, 1, 0)) rfl rfl rfl (As := [(0, (((i + hv) + l1) + 1))]) (rest := [(0, (((i + hv) + l1) + 1))]) (c := 161) rfl rfl (Nat.le_of_ble_eq_true rfl) (st_cell g (k := 16) (n := 0) (by decide +kernel)).1 (st_cell g (k := 16) (n := 0) (by decide +kernel)).2.1 (h_X0_numberAt ⟨by omega, by omega⟩ sb g) (hd_bI (fun n68 hc19 pn68 => ?_))
                      obtain ⟨pn68, ehc19⟩ := pn68
                      replace ehc19 := ehc19.symm
                      subst ehc19
                      refine hd_ipush (z := 9) pkX0_wrongSign rfl ?_
                      have cut74 : ∀ (l2 : Int), (l2 = ln0 h (i + hv + l1 + 1)) → (1 ≤ l2 ∧ l2 ≤ 2) → MW KX0_wrongSign Q 0 0 (pcA pgX0_wrongSign 74) [(0, (2, ((161 : Nat) : Int))), (1, (0, (((i + hv) + l1) + 1))), (2, (0, b))] [(0, l2), (0, (((i + hv) + l1) + 1))] h := by
                        intro l2 l2v l2b
                        refine hd_iadd pkX0_wrongSign rfl (by omega) ?_
                        refine hd_istore pkX0_wrongSign rfl rfl ?_
                        change MW _ _ _ _ _ [(1, (0, ((((i + hv) + l1) + 1) + l2))), (0, (2, ((161 : Nat) : Int))), (2, (0, b))] _ _
                        refine hd_iload pkX0_wrongSign rfl rfl ?_
                        refine hd_aload pkX0_wrongSign rfl rfl (Int.natCast_nonneg _) ?_
                        refine hd_iload pkX0_wrongSign rfl rfl ?_
                        refine hd_callV pkX0_wrongSign rfl (q := (KX0_signAt, yX0_signAt, 0, 1, 0)) rfl rfl rfl (As := [(0, ((((i + hv) + l1) + 1) + l2))]) (rest := [(0, ((((i + hv) + l1) + 1) + l2))]) (c := 161) rfl rfl (Nat.le_of_ble_eq_true rfl) (st_cell g (k := 16) (n := 0) (by decide +kernel)).1 (st_cell g (k := 16) (n := 0) (by decide +kernel)).2.1 (h_X0_signAt sb g) (hd_bI (fun x79 hc20 px79 => ?_))
                        obtain ⟨px79, ehc20⟩ := px79
                        replace ehc20 := ehc20.symm
                        subst ehc20
                        refine hd_ipush (z := 104) pkX0_wrongSign rfl ?_
                        have cut85 : ∀ (h2 : Int), (h2 = hb0 h (i + hv + l1 + 1 + l2)) → (0 ≤ h2 ∧ h2 ≤ 1) → MW KX0_wrongSign Q 0 0 (pcA pgX0_wrongSign 85) [(0, (2, ((161 : Nat) : Int))), (1, (0, ((((i + hv) + l1) + 1) + l2))), (2, (0, b))] [(0, h2), (0, ((((i + hv) + l1) + 1) + l2))] h := by
                          intro h2 h2v h2b
                          refine hd_iadd pkX0_wrongSign rfl (by omega) ?_
                          refine hd_istore pkX0_wrongSign rfl rfl ?_
                          change MW _ _ _ _ _ [(1, (0, (((((i + hv) + l1) + 1) + l2) + h2))), (0, (2, ((161 : Nat) : Int))), (2, (0, b))] _ _
                          refine hd_aload pkX0_wrongSign rfl rfl (Int.natCast_nonneg _) ?_
                          refine hd_iload pkX0_wrongSign rfl rfl ?_
                          refine hd_callV pkX0_wrongSign rfl (q := (KX0_signAt, yX0_signAt, 0, 1, 0)) rfl rfl rfl (As := [(0, (((((i + hv) + l1) + 1) + l2) + h2))]) (rest := []) (c := 161) rfl rfl (Nat.le_of_ble_eq_true rfl) (st_cell g (k := 16) (n := 0) (by decide +kernel)).1 (st_cell g (k := 16) (n := 0) (by decide +kernel)).2.1 (h_X0_signAt sb g) (hd_bI (fun x89 hc21 px89 => ?_))
                          obtain ⟨px89, ehc21⟩ := px89
                          replace ehc21 := ehc21.symm
                          subst ehc21
                          refine hd_callS pkX0_wrongSign rfl (q := (KX0_isNode, yX0_isNode, 0, 1, 1)) rfl rfl rfl (As := [(0, x89)]) (rest := []) rfl rfl (Nat.le_of_ble_eq_true rfl) rfl (h_X0_isNode) (hd_bI (fun w22 hc23 p24 => ?_))
                          obtain ⟨p24, ehc23⟩ := p24
                          replace ehc23 := ehc23.symm
                          subst ehc23
                          refine hd_if_ne pkX0_wrongSign rfl (fun c25 => ?_) (fun c25 => ?_)
                          · skip
                            refine hd_iinc (z := 1) pkX0_wrongSign rfl rfl (by omega) rfl ?_
                            change MW _ _ _ _ _ [(1, (0, ((((((i + hv) + l1) + 1) + l2) + h2) + 1))), (0, (2, ((161 : Nat) : Int))), (2, (0, b))] _ _
                            refine hd_iinc (z := 1) pkX0_wrongSign rfl rfl (by omega) rfl ?_
                            change MW _ _ _ _ _ [(2, (0, (b + 1))), (1, (0, ((((((i + hv) + l1) + 1) + l2) + h2) + 1))), (0, (2, ((161 : Nat) : Int)))] _ _
                            refine hd_goto pkX0_wrongSign rfl ?_
                            refine m_sub [(0, (2, ((161 : Nat) : Int))), (1, (0, ((((((i + hv) + l1) + 1) + l2) + h2) + 1))), (2, (0, (b + 1)))] (List.forall_mem_cons.mpr ⟨rfl, List.forall_mem_cons.mpr ⟨rfl, List.forall_mem_cons.mpr ⟨rfl, fun _ h => absurd h List.not_mem_nil⟩⟩⟩) ?_
                            refine ih12  (((((((i + hv) + l1) + 1) + l2) + h2) + 1)) ((b + 1)) ?_ ?_ ?_ ?_ ?_
                            · omega
                            · omega
                            · omega
                            · intro w
                              refine okt ?_
                              rw [show (3 - b).toNat = (3 - (b + 1)).toNat + 1 by omega]
                              have e1 : p10 h i = i + hv := by rw [hvv]; rfl
                              have e2 : p20 h i = i + hv + l1 + 1 := by unfold p20; rw [e1, ← l1v]
                              have e3 : p30 h i = i + hv + l1 + 1 + l2 := by unfold p30; rw [e2, ← l2v]
                              have e4 : nx0 h i = i + hv + l1 + 1 + l2 + h2 + 1 := by unfold nx0; rw [e3, ← h2v]
                              refine Or.inr ⟨⟨?_, ?_⟩, ?_⟩
                              · rw [e1, ← pn36.1]
                                assumption
                              · rw [e2, ← pn61.1]
                                assumption
                              · rw [e4]
                                exact w
                            · omega
                          · skip
                            refine hd_iload pkX0_wrongSign rfl rfl ?_
                            refine hd_iret pkX0_wrongSign rfl ?_
                            subst eQ
                            exact ⟨rfl, rfl, ⟨(by show (-1 : Int) ≤ (((((i + hv) + l1) + 1) + l2) + h2) ∧ ((((((i + hv) + l1) + 1) + l2) + h2) : Int) ≤ 100; omega), fun w => absurd (show ((((((i + hv) + l1) + 1) + l2) + h2) : Int) < 0 from w) (by omega)⟩, rfl⟩
                        refine hd_ic_ne pkX0_wrongSign rfl (fun c26 => ?_) (fun c26 => ?_)
                        · skip
                          refine hd_ipush (z := 0) pkX0_wrongSign rfl ?_
                          refine m_sub [(0, (2, ((161 : Nat) : Int))), (1, (0, ((((i + hv) + l1) + 1) + l2))), (2, (0, b))] (List.forall_mem_cons.mpr ⟨rfl, List.forall_mem_cons.mpr ⟨rfl, List.forall_mem_cons.mpr ⟨rfl, fun _ h => absurd h List.not_mem_nil⟩⟩⟩) ?_
                          refine cut85 (0) ?_ ?_
                          · unfold hb0
                            rw [← px79.1]
                            first
                              | (rw [if_pos (by omega)]; done)
                              | (rw [if_neg (by omega)]; done)
                              | (exfalso; omega)
                          · omega
                        · skip
                          refine hd_ipush (z := 1) pkX0_wrongSign rfl ?_
                          refine hd_goto pkX0_wrongSign rfl ?_
                          refine m_sub [(0, (2, ((161 : Nat) : Int))), (1, (0, ((((i + hv) + l1) + 1) + l2))), (2, (0, b))] (List.forall_mem_cons.mpr ⟨rfl, List.forall_mem_cons.mpr ⟨rfl, List.forall_mem_cons.mpr ⟨rfl, fun _ h => absurd h List.not_mem_nil⟩⟩⟩) ?_
                          refine cut85 (1) ?_ ?_
                          · unfold hb0
                            rw [← px79.1]
                            first
                              | (rw [if_pos (by omega)]; done)
                              | (rw [if_neg (by omega)]; done)
                              | (exfalso; omega)
                          · omega
                      refine hd_ic_le pkX0_wrongSign rfl (fun c27 => ?_) (fun c27 => ?_)
                      · skip
                        refine hd_ipush (z := 1) pkX0_wrongSign rfl ?_
                        refine m_sub [(0, (2, ((161 : Nat) : Int))), (1, (0, (((i + hv) + l1) + 1))), (2, (0, b))] (List.forall_mem_cons.mpr ⟨rfl, List.forall_mem_cons.mpr ⟨rfl, List.forall_mem_cons.mpr ⟨rfl, fun _ h => absurd h List.not_mem_nil⟩⟩⟩) ?_
                        refine cut74 (1) ?_ ?_
                        · unfold ln0
                          rw [← pn68.1]
                          first
                            | (rw [if_pos (by omega)]; done)
                            | (rw [if_neg (by omega)]; done)
                            | (exfalso; omega)
                        · omega
                      · skip
                        refine hd_ipush (z := 2) pkX0_wrongSign rfl ?_
                        refine hd_goto pkX0_wrongSign rfl ?_
                        refine m_sub [(0, (2, ((161 : Nat) : Int))), (1, (0, (((i + hv) + l1) + 1))), (2, (0, b))] (List.forall_mem_cons.mpr ⟨rfl, List.forall_mem_cons.mpr ⟨rfl, List.forall_mem_cons.mpr ⟨rfl, fun _ h => absurd h List.not_mem_nil⟩⟩⟩) ?_
                        refine cut74 (2) ?_ ?_
                        · unfold ln0
                          rw [← pn68.1]
                          first
                            | (rw [if_pos (by omega)]; done)
                            | (rw [if_neg (by omega)]; done)
                            | (exfalso; omega)
                        · omega
                    · skip
                      refine hd_iload pkX0_wrongSign rfl rfl ?_
                      refine hd_iret pkX0_wrongSign rfl ?_
                      subst eQ
                      exact ⟨rfl, rfl, ⟨(by show (-1 : Int) ≤ (((i + hv) + l1) + 1) ∧ ((((i + hv) + l1) + 1) : Int) ≤ 100; omega), fun w => absurd (show ((((i + hv) + l1) + 1) : Int) < 0 from w) (by omega)⟩, rfl⟩
                  · skip
                    refine hd_iload pkX0_wrongSign rfl rfl ?_
                    refine hd_iret pkX0_wrongSign rfl ?_
                    subst eQ
                    exact ⟨rfl, rfl, ⟨(by show (-1 : Int) ≤ ((i + hv) + l1) ∧ (((i + hv) + l1) : Int) ≤ 100; omega), fun w => absurd (show (((i + hv) + l1) : Int) < 0 from w) (by omega)⟩, rfl⟩
                refine hd_ic_le pkX0_wrongSign rfl (fun c28 => ?_) (fun c28 => ?_)
                · skip
                  refine hd_ipush (z := 1) pkX0_wrongSign rfl ?_
                  refine m_sub [(0, (2, ((161 : Nat) : Int))), (1, (0, (i + hv))), (2, (0, b))] (List.forall_mem_cons.mpr ⟨rfl, List.forall_mem_cons.mpr ⟨rfl, List.forall_mem_cons.mpr ⟨rfl, fun _ h => absurd h List.not_mem_nil⟩⟩⟩) ?_
                  refine cut49 (1) ?_ ?_
                  · unfold ln0
                    rw [← pn43.1]
                    first
                      | (rw [if_pos (by omega)]; done)
                      | (rw [if_neg (by omega)]; done)
                      | (exfalso; omega)
                  · omega
                · skip
                  refine hd_ipush (z := 2) pkX0_wrongSign rfl ?_
                  refine hd_goto pkX0_wrongSign rfl ?_
                  refine m_sub [(0, (2, ((161 : Nat) : Int))), (1, (0, (i + hv))), (2, (0, b))] (List.forall_mem_cons.mpr ⟨rfl, List.forall_mem_cons.mpr ⟨rfl, List.forall_mem_cons.mpr ⟨rfl, fun _ h => absurd h List.not_mem_nil⟩⟩⟩) ?_
                  refine cut49 (2) ?_ ?_
                  · unfold ln0
                    rw [← pn43.1]
                    first
                      | (rw [if_pos (by omega)]; done)
                      | (rw [if_neg (by omega)]; done)
                      | (exfalso; omega)
                  · omega
              · skip
                refine hd_iload pkX0_wrongSign rfl rfl ?_
                refine hd_iret pkX0_wrongSign rfl ?_
                subst eQ
                exact ⟨rfl, rfl, ⟨(by show (-1 : Int) ≤ (i + hv) ∧ ((i + hv) : Int) ≤ 100; omega), fun w => absurd (show ((i + hv) : Int) < 0 from w) (by omega)⟩, rfl⟩
            refine hd_ic_ne pkX0_wrongSign rfl (fun c29 => ?_) (fun c29 => ?_)
            · skip
              refine hd_ipush (z := 0) pkX0_wrongSign rfl ?_
              refine cut32 (0) ?_ ?_
              · unfold hb0
                rw [← px26.1]
                first
                  | (rw [if_pos (by omega)]; done)
                  | (rw [if_neg (by omega)]; done)
                  | (exfalso; omega)
              · omega
            · skip
              refine hd_ipush (z := 1) pkX0_wrongSign rfl ?_
              refine hd_goto pkX0_wrongSign rfl ?_
              refine cut32 (1) ?_ ?_
              · unfold hb0
                rw [← px26.1]
                first
                  | (rw [if_pos (by omega)]; done)
                  | (rw [if_neg (by omega)]; done)
                  | (exfalso; omega)
              · omega
          · skip
            refine hd_iload pkX0_wrongSign rfl rfl ?_
            refine hd_if_le pkX0_wrongSign rfl (fun c30 => ?_) (fun c30 => ?_)
            · skip
              refine hd_iload pkX0_wrongSign rfl rfl ?_
              refine hd_aload pkX0_wrongSign rfl rfl (Int.natCast_nonneg _) ?_
              refine hd_iload pkX0_wrongSign rfl rfl ?_
              refine hd_callV pkX0_wrongSign rfl (q := (KX0_signAt, yX0_signAt, 0, 1, 0)) rfl rfl rfl (As := [(0, i)]) (rest := [(0, i)]) (c := 161) rfl rfl (Nat.le_of_ble_eq_true rfl) (st_cell g (k := 16) (n := 0) (by decide +kernel)).1 (st_cell g (k := 16) (n := 0) (by decide +kernel)).2.1 (h_X0_signAt sb g) (hd_bI (fun x26 hc31 px26 => ?_))
              obtain ⟨px26, ehc31⟩ := px26
              replace ehc31 := ehc31.symm
              subst ehc31
              refine hd_ipush (z := 104) pkX0_wrongSign rfl ?_
              have cut32 : ∀ (hv : Int), (hv = hb0 h (i)) → (0 ≤ hv ∧ hv ≤ 1) → MW KX0_wrongSign Q 0 0 (pcA pgX0_wrongSign 32) [(0, (2, ((161 : Nat) : Int))), (1, (0, i)), (2, (0, b))] [(0, hv), (0, i)] h := by
                intro hv hvv hvb
                refine hd_iadd pkX0_wrongSign rfl (by omega) ?_
                refine hd_istore pkX0_wrongSign rfl rfl ?_
                change MW _ _ _ _ _ [(1, (0, (i + hv))), (0, (2, ((161 : Nat) : Int))), (2, (0, b))] _ _
                refine hd_aload pkX0_wrongSign rfl rfl (Int.natCast_nonneg _) ?_
                refine hd_iload pkX0_wrongSign rfl rfl ?_
                refine hd_callV pkX0_wrongSign rfl (q := (KX0_numberAt, yX0_numberAt, 0, 1, 0)) rfl rfl rfl (As := [(0, (i + hv))]) (rest := []) (c := 161) rfl rfl (Nat.le_of_ble_eq_true rfl) (st_cell g (k := 16) (n := 0) (by decide +kernel)).1 (st_cell g (k := 16) (n := 0) (by decide +kernel)).2.1 (h_X0_numberAt ⟨by omega, by omega⟩ sb g) (hd_bI (fun n36 hc32 pn36 => ?_))
                obtain ⟨pn36, ehc32⟩ := pn36
                replace ehc32 := ehc32.symm
                subst ehc32
                refine hd_if_ne pkX0_wrongSign rfl (fun c33 => ?_) (fun c33 => ?_)
                · skip
                  refine hd_iload pkX0_wrongSign rfl rfl ?_
                  refine hd_aload pkX0_wrongSign rfl rfl (Int.natCast_nonneg _) ?_
                  refine hd_iload pkX0_wrongSign rfl rfl ?_
                  refine hd_callV pkX0_wrongSign rfl (q := (KX0_numberAt, yX0_numberAt, 0, 1, 0)) rfl rfl rfl (As := [(0, (i + hv))]) (rest := [(0, (i + hv))]) (c := 161) rfl rfl (Nat.le_of_ble_eq_true rfl) (st_cell g (k := 16) (n := 0) (by decide +kernel)).1 (st_cell g (k := 16) (n := 0) (by decide +kernel)).2.1 (h_X0_numberAt ⟨by omega, by omega⟩ sb g) (hd_bI (fun n43 hc34 pn43 => ?_))
                  obtain ⟨pn43, ehc34⟩ := pn43
                  replace ehc34 := ehc34.symm
                  subst ehc34
                  refine hd_ipush (z := 9) pkX0_wrongSign rfl ?_
                  have cut49 : ∀ (l1 : Int), (l1 = ln0 h (i + hv)) → (1 ≤ l1 ∧ l1 ≤ 2) → MW KX0_wrongSign Q 0 0 (pcA pgX0_wrongSign 49) [(0, (2, ((161 : Nat) : Int))), (1, (0, (i + hv))), (2, (0, b))] [(0, l1), (0, (i + hv))] h := by
                    intro l1 l1v l1b
                    refine hd_iadd pkX0_wrongSign rfl (by omega) ?_
                    refine hd_istore pkX0_wrongSign rfl rfl ?_
                    change MW _ _ _ _ _ [(1, (0, ((i + hv) + l1))), (0, (2, ((161 : Nat) : Int))), (2, (0, b))] _ _
                    refine hd_aload pkX0_wrongSign rfl rfl (Int.natCast_nonneg _) ?_
                    refine hd_iload pkX0_wrongSign rfl rfl ?_
                    refine hd_callV pkX0_wrongSign rfl (q := (KX0_signAt, yX0_signAt, 0, 1, 0)) rfl rfl rfl (As := [(0, ((i + hv) + l1))]) (rest := []) (c := 161) rfl rfl (Nat.le_of_ble_eq_true rfl) (st_cell g (k := 16) (n := 0) (by decide +kernel)).1 (st_cell g (k := 16) (n := 0) (by decide +kernel)).2.1 (h_X0_signAt sb g) (hd_bI (fun x53 hc35 px53 => ?_))
                    obtain ⟨px53, ehc35⟩ := px53
                    replace ehc35 := ehc35.symm
                    subst ehc35
                    refine hd_ipush (z := 120) pkX0_wrongSign rfl ?_
                    refine hd_ic_eq pkX0_wrongSign rfl (fun c36 => ?_) (fun c36 => ?_)
                    · skip
                      refine hd_iinc (z := 1) pkX0_wrongSign rfl rfl (by omega) rfl ?_
                      change MW _ _ _ _ _ [(1, (0, (((i + hv) + l1) + 1))), (0, (2, ((161 : Nat) : Int))), (2, (0, b))] _ _
                      refine hd_aload pkX0_wrongSign rfl rfl (Int.natCast_nonneg _) ?_
                      refine hd_iload pkX0_wrongSign rfl rfl ?_
                      refine hd_callV pkX0_wrongSign rfl (q := (KX0_numberAt, yX0_numberAt, 0, 1, 0)) rfl rfl rfl (As := [(0, (((i + hv) + l1) + 1))]) (rest := []) (c := 161) rfl rfl (Nat.le_of_ble_eq_true rfl) (st_cell g (k := 16) (n := 0) (by decide +kernel)).1 (st_cell g (k := 16) (n := 0) (by decide +kernel)).2.1 (h_X0_numberAt ⟨by omega, by omega⟩ sb g) (hd_bI (fun n61 hc37 pn61 => ?_))
                      obtain ⟨pn61, ehc37⟩ := pn61
                      replace ehc37 := ehc37.symm
                      subst ehc37
                      refine hd_if_ne pkX0_wrongSign rfl (fun c38 => ?_) (fun c38 => ?_)
                      · skip
                        refine hd_iload pkX0_wrongSign rfl rfl ?_
                        refine hd_aload pkX0_wrongSign rfl rfl (Int.natCast_nonneg _) ?_
                        refine hd_iload pkX0_wrongSign rfl rfl ?_
                        refine hd_callV pkX0_wrongSign rfl (q := (KX0_numberAt, yX0_numberAt, 0, 1, 0)) rfl rfl rfl (As := [(0, (((i + hv) + l1) + 1))]) (rest := [(0, (((i + hv) + l1) + 1))]) (c := 161) rfl rfl (Nat.le_of_ble_eq_true rfl) (st_cell g (k := 16) (n := 0) (by decide +kernel)).1 (st_cell g (k := 16) (n := 0) (by decide +kernel)).2.1 (h_X0_numberAt ⟨by omega, by omega⟩ sb g) (hd_bI (fun n68 hc39 pn68 => ?_))
                        obtain ⟨pn68, ehc39⟩ := pn68
                        replace ehc39 := ehc39.symm
                        subst ehc39
                        refine hd_ipush (z := 9) pkX0_wrongSign rfl ?_
                        have cut74 : ∀ (l2 : Int), (l2 = ln0 h (i + hv + l1 + 1)) → (1 ≤ l2 ∧ l2 ≤ 2) → MW KX0_wrongSign Q 0 0 (pcA pgX0_wrongSign 74) [(0, (2, ((161 : Nat) : Int))), (1, (0, (((i + hv) + l1) + 1))), (2, (0, b))] [(0, l2), (0, (((i + hv) + l1) + 1))] h := by
                          intro l2 l2v l2b
                          refine hd_iadd pkX0_wrongSign rfl (by omega) ?_
                          refine hd_istore pkX0_wrongSign rfl rfl ?_
                          change MW _ _ _ _ _ [(1, (0, ((((i + hv) + l1) + 1) + l2))), (0, (2, ((161 : Nat) : Int))), (2, (0, b))] _ _
                          refine hd_iload pkX0_wrongSign rfl rfl ?_
                          refine hd_aload pkX0_wrongSign rfl rfl (Int.natCast_nonneg _) ?_
                          refine hd_iload pkX0_wrongSign rfl rfl ?_
                          refine hd_callV pkX0_wrongSign rfl (q := (KX0_signAt, yX0_signAt, 0, 1, 0)) rfl rfl rfl (As := [(0, ((((i + hv) + l1) + 1) + l2))]) (rest := [(0, ((((i + hv) + l1) + 1) + l2))]) (c := 161) rfl rfl (Nat.le_of_ble_eq_true rfl) (st_cell g (k := 16) (n := 0) (by decide +kernel)).1 (st_cell g (k := 16) (n := 0) (by decide +kernel)).2.1 (h_X0_signAt sb g) (hd_bI (fun x79 hc40 px79 => ?_))
                          obtain ⟨px79, ehc40⟩ := px79
                          replace ehc40 := ehc40.symm
                          subst ehc40
                          refine hd_ipush (z := 104) pkX0_wrongSign rfl ?_
                          have cut85 : ∀ (h2 : Int), (h2 = hb0 h (i + hv + l1 + 1 + l2)) → (0 ≤ h2 ∧ h2 ≤ 1) → MW KX0_wrongSign Q 0 0 (pcA pgX0_wrongSign 85) [(0, (2, ((161 : Nat) : Int))), (1, (0, ((((i + hv) + l1) + 1) + l2))), (2, (0, b))] [(0, h2), (0, ((((i + hv) + l1) + 1) + l2))] h := by
                            intro h2 h2v h2b
                            refine hd_iadd pkX0_wrongSign rfl (by omega) ?_
                            refine hd_istore pkX0_wrongSign rfl rfl ?_
                            change MW _ _ _ _ _ [(1, (0, (((((i + hv) + l1) + 1) + l2) + h2))), (0, (2, ((161 : Nat) : Int))), (2, (0, b))] _ _
                            refine hd_aload pkX0_wrongSign rfl rfl (Int.natCast_nonneg _) ?_
                            refine hd_iload pkX0_wrongSign rfl rfl ?_
                            refine hd_callV pkX0_wrongSign rfl (q := (KX0_signAt, yX0_signAt, 0, 1, 0)) rfl rfl rfl (As := [(0, (((((i + hv) + l1) + 1) + l2) + h2))]) (rest := []) (c := 161) rfl rfl (Nat.le_of_ble_eq_true rfl) (st_cell g (k := 16) (n := 0) (by decide +kernel)).1 (st_cell g (k := 16) (n := 0) (by decide +kernel)).2.1 (h_X0_signAt sb g) (hd_bI (fun x89 hc41 px89 => ?_))
                            obtain ⟨px89, ehc41⟩ := px89
                            replace ehc41 := ehc41.symm
                            subst ehc41
                            refine hd_callS pkX0_wrongSign rfl (q := (KX0_isNode, yX0_isNode, 0, 1, 1)) rfl rfl rfl (As := [(0, x89)]) (rest := []) rfl rfl (Nat.le_of_ble_eq_true rfl) rfl (h_X0_isNode) (hd_bI (fun w42 hc43 p44 => ?_))
                            obtain ⟨p44, ehc43⟩ := p44
                            replace ehc43 := ehc43.symm
                            subst ehc43
                            refine hd_if_ne pkX0_wrongSign rfl (fun c45 => ?_) (fun c45 => ?_)
                            · skip
                              refine hd_iinc (z := 1) pkX0_wrongSign rfl rfl (by omega) rfl ?_
                              change MW _ _ _ _ _ [(1, (0, ((((((i + hv) + l1) + 1) + l2) + h2) + 1))), (0, (2, ((161 : Nat) : Int))), (2, (0, b))] _ _
                              refine hd_iinc (z := 1) pkX0_wrongSign rfl rfl (by omega) rfl ?_
                              change MW _ _ _ _ _ [(2, (0, (b + 1))), (1, (0, ((((((i + hv) + l1) + 1) + l2) + h2) + 1))), (0, (2, ((161 : Nat) : Int)))] _ _
                              refine hd_goto pkX0_wrongSign rfl ?_
                              refine m_sub [(0, (2, ((161 : Nat) : Int))), (1, (0, ((((((i + hv) + l1) + 1) + l2) + h2) + 1))), (2, (0, (b + 1)))] (List.forall_mem_cons.mpr ⟨rfl, List.forall_mem_cons.mpr ⟨rfl, List.forall_mem_cons.mpr ⟨rfl, fun _ h => absurd h List.not_mem_nil⟩⟩⟩) ?_
                              refine ih12  (((((((i + hv) + l1) + 1) + l2) + h2) + 1)) ((b + 1)) ?_ ?_ ?_ ?_ ?_
                              · omega
                              · omega
                              · omega
                              · intro w
                                refine okt ?_
                                rw [show (3 - b).toNat = (3 - (b + 1)).toNat + 1 by omega]
                                have e1 : p10 h i = i + hv := by rw [hvv]; rfl
                                have e2 : p20 h i = i + hv + l1 + 1 := by unfold p20; rw [e1, ← l1v]
                                have e3 : p30 h i = i + hv + l1 + 1 + l2 := by unfold p30; rw [e2, ← l2v]
                                have e4 : nx0 h i = i + hv + l1 + 1 + l2 + h2 + 1 := by unfold nx0; rw [e3, ← h2v]
                                refine Or.inr ⟨⟨?_, ?_⟩, ?_⟩
                                · rw [e1, ← pn36.1]
                                  assumption
                                · rw [e2, ← pn61.1]
                                  assumption
                                · rw [e4]
                                  exact w
                              · omega
                            · skip
                              refine hd_iload pkX0_wrongSign rfl rfl ?_
                              refine hd_iret pkX0_wrongSign rfl ?_
                              subst eQ
                              exact ⟨rfl, rfl, ⟨(by show (-1 : Int) ≤ (((((i + hv) + l1) + 1) + l2) + h2) ∧ ((((((i + hv) + l1) + 1) + l2) + h2) : Int) ≤ 100; omega), fun w => absurd (show ((((((i + hv) + l1) + 1) + l2) + h2) : Int) < 0 from w) (by omega)⟩, rfl⟩
                          refine hd_ic_ne pkX0_wrongSign rfl (fun c46 => ?_) (fun c46 => ?_)
                          · skip
                            refine hd_ipush (z := 0) pkX0_wrongSign rfl ?_
                            refine m_sub [(0, (2, ((161 : Nat) : Int))), (1, (0, ((((i + hv) + l1) + 1) + l2))), (2, (0, b))] (List.forall_mem_cons.mpr ⟨rfl, List.forall_mem_cons.mpr ⟨rfl, List.forall_mem_cons.mpr ⟨rfl, fun _ h => absurd h List.not_mem_nil⟩⟩⟩) ?_
                            refine cut85 (0) ?_ ?_
                            · unfold hb0
                              rw [← px79.1]
                              first
                                | (rw [if_pos (by omega)]; done)
                                | (rw [if_neg (by omega)]; done)
                                | (exfalso; omega)
                            · omega
                          · skip
                            refine hd_ipush (z := 1) pkX0_wrongSign rfl ?_
                            refine hd_goto pkX0_wrongSign rfl ?_
                            refine m_sub [(0, (2, ((161 : Nat) : Int))), (1, (0, ((((i + hv) + l1) + 1) + l2))), (2, (0, b))] (List.forall_mem_cons.mpr ⟨rfl, List.forall_mem_cons.mpr ⟨rfl, List.forall_mem_cons.mpr ⟨rfl, fun _ h => absurd h List.not_mem_nil⟩⟩⟩) ?_
                            refine cut85 (1) ?_ ?_
                            · unfold hb0
                              rw [← px79.1]
                              first
                                | (rw [if_pos (by omega)]; done)
                                | (rw [if_neg (by omega)]; done)
                                | (exfalso; omega)
                            · omega
                        refine hd_ic_le pkX0_wrongSign rfl (fun c47 => ?_) (fun c47 => ?_)
                        · skip
                          refine hd_ipush (z := 1) pkX0_wrongSign rfl ?_
                          refine m_sub [(0, (2, ((161 : Nat) : Int))), (1, (0, (((i + hv) + l1) + 1))), (2, (0, b))] (List.forall_mem_cons.mpr ⟨rfl, List.forall_mem_cons.mpr ⟨rfl, List.forall_mem_cons.mpr ⟨rfl, fun _ h => absurd h List.not_mem_nil⟩⟩⟩) ?_
                          refine cut74 (1) ?_ ?_
                          · unfold ln0
                            rw [← pn68.1]
                            first
                              | (rw [if_pos (by omega)]; done)
                              | (rw [if_neg (by omega)]; done)
                              | (exfalso; omega)
                          · omega
                        · skip
                          refine hd_ipush (z := 2) pkX0_wrongSign rfl ?_
                          refine hd_goto pkX0_wrongSign rfl ?_
                          refine m_sub [(0, (2, ((161 : Nat) : Int))), (1, (0, (((i + hv) + l1) + 1))), (2, (0, b))] (List.forall_mem_cons.mpr ⟨rfl, List.forall_mem_cons.mpr ⟨rfl, List.forall_mem_cons.mpr ⟨rfl, fun _ h => absurd h List.not_mem_nil⟩⟩⟩) ?_
                          refine cut74 (2) ?_ ?_
                          · unfold ln0
                            rw [← pn68.1]
                            first
                              | (rw [if_pos (by omega)]; done)
                              | (rw [if_neg (by omega)]; done)
                              | (exfalso; omega)
                          · omega
                      · skip
                        refine hd_iload pkX0_wrongSign rfl rfl ?_
                        refine hd_iret pkX0_wrongSign rfl ?_
                        subst eQ
                        exact ⟨rfl, rfl, ⟨(by show (-1 : Int) ≤ (((i + hv) + l1) + 1) ∧ ((((i + hv) + l1) + 1) : Int) ≤ 100; omega), fun w => absurd (show ((((i + hv) + l1) + 1) : Int) < 0 from w) (by omega)⟩, rfl⟩
                    · skip
                      refine hd_iload pkX0_wrongSign rfl rfl ?_
                      refine hd_iret pkX0_wrongSign rfl ?_
                      subst eQ
                      exact ⟨rfl, rfl, ⟨(by show (-1 : Int) ≤ ((i + hv) + l1) ∧ (((i + hv) + l1) : Int) ≤ 100; omega), fun w => absurd (show (((i + hv) + l1) : Int) < 0 from w) (by omega)⟩, rfl⟩
                  refine hd_ic_le pkX0_wrongSign rfl (fun c48 => ?_) (fun c48 => ?_)
                  · skip
                    refine hd_ipush (z := 1) pkX0_wrongSign rfl ?_
                    refine m_sub [(0, (2, ((161 : Nat) : Int))), (1, (0, (i + hv))), (2, (0, b))] (List.forall_mem_cons.mpr ⟨rfl, List.forall_mem_cons.mpr ⟨rfl, List.forall_mem_cons.mpr ⟨rfl, fun _ h => absurd h List.not_mem_nil⟩⟩⟩) ?_
                    refine cut49 (1) ?_ ?_
                    · unfold ln0
                      rw [← pn43.1]
                      first
                        | (rw [if_pos (by omega)]; done)
                        | (rw [if_neg (by omega)]; done)
                        | (exfalso; omega)
                    · omega
                  · skip
                    refine hd_ipush (z := 2) pkX0_wrongSign rfl ?_
                    refine hd_goto pkX0_wrongSign rfl ?_
                    refine m_sub [(0, (2, ((161 : Nat) : Int))), (1, (0, (i + hv))), (2, (0, b))] (List.forall_mem_cons.mpr ⟨rfl, List.forall_mem_cons.mpr ⟨rfl, List.forall_mem_cons.mpr ⟨rfl, fun _ h => absurd h List.not_mem_nil⟩⟩⟩) ?_
                    refine cut49 (2) ?_ ?_
                    · unfold ln0
                      rw [← pn43.1]
                      first
                        | (rw [if_pos (by omega)]; done)
                        | (rw [if_neg (by omega)]; done)
                        | (exfalso; omega)
                    · omega
                · skip
                  refine hd_iload pkX0_wrongSign rfl rfl ?_
                  refine hd_iret pkX0_wrongSign rfl ?_
                  subst eQ
                  exact ⟨rfl, rfl, ⟨(by show (-1 : Int) ≤ (i + hv) ∧ ((i + hv) : Int) ≤ 100; omega), fun w => absurd (show ((i + hv) : Int) < 0 from w) (by omega)⟩, rfl⟩
              refine hd_ic_ne pkX0_wrongSign rfl (fun c49 => ?_) (fun c49 => ?_)
              · skip
                refine hd_ipush (z := 0) pkX0_wrongSign rfl ?_
                refine cut32 (0) ?_ ?_
                · unfold hb0
                  rw [← px26.1]
                  first
                    | (rw [if_pos (by omega)]; done)
                    | (rw [if_neg (by omega)]; done)
                    | (exfalso; omega)
                · omega
              · skip
                refine hd_ipush (z := 1) pkX0_wrongSign rfl ?_
                refine hd_goto pkX0_wrongSign rfl ?_
                refine cut32 (1) ?_ ?_
                · unfold hb0
                  rw [← px26.1]
                  first
                    | (rw [if_pos (by omega)]; done)
                    | (rw [if_neg (by omega)]; done)
                    | (exfalso; omega)
                · omega
            · skip
              refine hd_ipush (z := (-1)) pkX0_wrongSign rfl ?_
              refine hd_iret pkX0_wrongSign rfl ?_
              subst eQ
              exact ⟨rfl, rfl, ⟨(by show (-1 : Int) ≤ (-1) ∧ ((-1) : Int) ≤ 100; omega), fun _ => ⟨okt (OKT.fin (by omega) _), by omega⟩⟩, rfl⟩
    refine m_sub [(0, (2, ((161 : Nat) : Int))), (1, (0, (0 + 1))), (2, (0, 0))] (List.forall_mem_cons.mpr ⟨rfl, List.forall_mem_cons.mpr ⟨rfl, List.forall_mem_cons.mpr ⟨rfl, fun _ h => absurd h List.not_mem_nil⟩⟩⟩) ?_
    refine lp12 (((3 : Int) - (0)) + 1).toNat ((0 + 1)) (0) ?_ ?_ ?_ ?_ ?_
    · omega
    · omega
    · omega
    · exact fun w => w
    · omega
  · skip
    refine hd_iload pkX0_wrongSign rfl rfl ?_
    refine hd_iret pkX0_wrongSign rfl ?_
    subst eQ
    exact ⟨rfl, rfl, ⟨(by show (-1 : Int) ≤ 0 ∧ (0 : Int) ≤ 100; omega), fun w => absurd (show (0 : Int) < 0 from w) (by omega)⟩, rfl⟩
set_option maxRecDepth 20000 in
set_option maxHeartbeats 8000000 in
theorem h_X0_takeNode {h : MH} {n c : Int} (n0 : 0 ≤ n ∧ n ≤ 3) (g : StrZ zT h) : MCal KX0_takeNode yX0_takeNode 0 0 [(2, ((161 : Nat) : Int)), (0, n), (0, c)] h (mRV fun h' => StrZ zT h' ∧ Only [167, 168] h h' ∧ ∀ j : Int, 0 ≤ j → ga h' 168 j = ga h 168 j ∨ ga h' 168 j = 0) := by
  refine MCal.ofMW (Or.inl rfl) ⟨cp_X0, rfl⟩ (Nat.le_of_ble_eq_true rfl) ?_
  generalize eQ : (mRV fun h' => StrZ zT h' ∧ Only [167, 168] h h' ∧ ∀ j : Int, 0 ≤ j → ga h' 168 j = ga h 168 j ∨ ga h' 168 j = 0 : MO → MH → Prop) = Q
  change MW KX0_takeNode Q 0 0 (pcA pgX0_takeNode 0) [(0, (2, ((161 : Nat) : Int))), (1, (0, n)), (2, (0, c))] [] h
  refine hd_locI (i := 1) rfl (fun rn => ?_)
  refine hd_locI (i := 2) rfl (fun rc => ?_)
  refine hd_aload pkX0_takeNode rfl rfl (Int.natCast_nonneg _) ?_
  refine hd_getR (n := 167) pkX0_takeNode rfl (st_cell g (k := 16) (n := 0) (by decide +kernel)).1 (st_cell g (k := 16) (n := 0) (by decide +kernel)).2.1 (st_ref g (by decide +kernel)) ?_
  refine hd_ipush (z := 2) pkX0_takeNode rfl ?_
  refine hd_iload pkX0_takeNode rfl rfl ?_
  refine hd_imul pkX0_takeNode rfl (by omega) ?_
  refine hd_iload pkX0_takeNode rfl rfl ?_
  refine hd_ipush (z := 83) pkX0_takeNode rfl ?_
  have cut14 : ∀ (k1 : Int), (0 ≤ k1 ∧ k1 ≤ 1) → MW KX0_takeNode Q 0 0 (pcA pgX0_takeNode 14) [(0, (2, ((161 : Nat) : Int))), (1, (0, n)), (2, (0, c))] [(0, k1), (0, (2 * n)), (2, ((167 : Nat) : Int))] h := by
    intro k1 k1b
    refine hd_zast (n := 8) pkX0_takeNode rfl (st_cell g (c := 167) (k := 2) (n := 8) (by decide +kernel)) (by first | decide | (unfold fR; omega)) (by omega) (by omega) (by omega) (fun hh1 ehh1 => ?_)
    have ghh1 : StrZ zT hh1 := by rw [ehh1]; exact st_arr g (by decide +kernel)
    have o1 : Only [167, 168] h hh1 := by rw [ehh1]; exact (Only.refl _ _).set (by decide)
    have z1 : ∀ j : Int, ga hh1 168 j = ga h 168 j := fun j => by rw [ehh1]; exact ga_ne _ _ _ _ (by decide) j
    obtain ⟨hA, ehA⟩ : ∃ x : MH, x = hh1 := ⟨_, rfl⟩
    rw [← ehA] at o1 z1
    refine hd_aload pkX0_takeNode rfl rfl (Int.natCast_nonneg _) ?_
    refine hd_getR (n := 167) pkX0_takeNode rfl (st_cell ghh1 (k := 16) (n := 0) (by decide +kernel)).1 (st_cell ghh1 (k := 16) (n := 0) (by decide +kernel)).2.1 (st_ref ghh1 (by decide +kernel)) ?_
    refine hd_ipush (z := 2) pkX0_takeNode rfl ?_
    refine hd_iload pkX0_takeNode rfl rfl ?_
    refine hd_imul pkX0_takeNode rfl (by omega) ?_
    refine hd_ipush (z := 1) pkX0_takeNode rfl ?_
    refine hd_iadd pkX0_takeNode rfl (by omega) ?_
    refine hd_iload pkX0_takeNode rfl rfl ?_
    refine hd_ipush (z := 84) pkX0_takeNode rfl ?_
    have cut31 : ∀ (k2 : Int), (0 ≤ k2 ∧ k2 ≤ 1) → MW KX0_takeNode Q 0 0 (pcA pgX0_takeNode 31) [(0, (2, ((161 : Nat) : Int))), (1, (0, n)), (2, (0, c))] [(0, k2), (0, ((2 * n) + 1)), (2, ((167 : Nat) : Int))] hh1 := by
      intro k2 k2b
      refine hd_zast (n := 8) pkX0_takeNode rfl (st_cell ghh1 (c := 167) (k := 2) (n := 8) (by decide +kernel)) (by first | decide | (unfold fR; omega)) (by omega) (by omega) (by omega) (fun hh2 ehh2 => ?_)
      have ghh2 : StrZ zT hh2 := by rw [ehh2]; exact st_arr ghh1 (by decide +kernel)
      have o2 : Only [167, 168] h hh2 := by rw [ehh2, ← ehA]; exact o1.set (by decide)
      have z2 : ∀ j : Int, ga hh2 168 j = ga h 168 j := fun j => by rw [ehh2, ← ehA, ga_ne _ _ _ _ (by decide)]; exact z1 j
      obtain ⟨hB, ehB⟩ : ∃ x : MH, x = hh2 := ⟨_, rfl⟩
      rw [← ehB] at o2 z2
      refine hd_aload pkX0_takeNode rfl rfl (Int.natCast_nonneg _) ?_
      refine hd_getR (n := 168) pkX0_takeNode rfl (st_cell ghh2 (k := 16) (n := 0) (by decide +kernel)).1 (st_cell ghh2 (k := 16) (n := 0) (by decide +kernel)).2.1 (st_ref ghh2 (by decide +kernel)) ?_
      refine hd_iload pkX0_takeNode rfl rfl ?_
      refine hd_ipush (z := 0) pkX0_takeNode rfl ?_
      refine hd_iast (n := 4) pkX0_takeNode rfl (st_cell ghh2 (c := 168) (k := 0) (n := 4) (by decide +kernel)) (by first | decide | (unfold fR; omega)) (by omega) (by omega) (fun hh3 ehh3 => ?_)
      have ghh3 : StrZ zT hh3 := by rw [ehh3]; exact st_arr ghh2 (by decide +kernel)
      have o3 : Only [167, 168] h hh3 := by rw [ehh3, ← ehB]; exact o2.set (by decide)
      have z3 : ∀ j : Int, 0 ≤ j → ga hh3 168 j = ga h 168 j ∨ ga hh3 168 j = 0 := fun j a => by
        rw [ehh3, ← ehB, ga_sa _ _ _ (by omega) a]
        split
        · exact Or.inr rfl
        · exact Or.inl (z2 j)
      refine hd_vret pkX0_takeNode rfl ?_
      subst eQ
      exact ⟨rfl, ghh3, o3, z3⟩
    refine hd_ic_eq pkX0_takeNode rfl (fun c4 => ?_) (fun c4 => ?_)
    · skip
      refine hd_ipush (z := 1) pkX0_takeNode rfl ?_
      refine hd_goto pkX0_takeNode rfl ?_
      refine cut31 (1) ?_
      · omega
    · skip
      refine hd_iload pkX0_takeNode rfl rfl ?_
      refine hd_ipush (z := 70) pkX0_takeNode rfl ?_
      refine hd_ic_ne pkX0_takeNode rfl (fun c5 => ?_) (fun c5 => ?_)
      · skip
        refine hd_ipush (z := 0) pkX0_takeNode rfl ?_
        refine cut31 (0) ?_
        · omega
      · skip
        refine hd_ipush (z := 1) pkX0_takeNode rfl ?_
        refine hd_goto pkX0_takeNode rfl ?_
        refine cut31 (1) ?_
        · omega
  refine hd_ic_eq pkX0_takeNode rfl (fun c6 => ?_) (fun c6 => ?_)
  · skip
    refine hd_ipush (z := 1) pkX0_takeNode rfl ?_
    refine hd_goto pkX0_takeNode rfl ?_
    refine cut14 (1) ?_
    · omega
  · skip
    refine hd_iload pkX0_takeNode rfl rfl ?_
    refine hd_ipush (z := 70) pkX0_takeNode rfl ?_
    refine hd_ic_ne pkX0_takeNode rfl (fun c7 => ?_) (fun c7 => ?_)
    · skip
      refine hd_ipush (z := 0) pkX0_takeNode rfl ?_
      refine cut14 (0) ?_
      · omega
    · skip
      refine hd_ipush (z := 1) pkX0_takeNode rfl ?_
      refine hd_goto pkX0_takeNode rfl ?_
      refine cut14 (1) ?_
      · omega
