set_option maxRecDepth 20000 in
set_option maxHeartbeats 8000000 in
theorem h_X14_sign {h : MH} (ha : 0 ≤ ga h 2495 20 ∧ ga h 2495 20 ≤ ga h 2495 10) (hz : ga h 2495 10 ≤ 50) (g : Str t14 r14 h) : MCal KX14_sign yX14_sign 0 0 [(2, ((2495 : Nat) : Int))] h (mRI fun v h' => (ga h 2495 20 < ga h 2495 10 ∨ v = 0) ∧ h' = h) := by
  refine MCal.ofMW (Or.inl rfl) ⟨cp_X14, rfl⟩ (Nat.le_of_ble_eq_true rfl) ?_
  generalize eQ : (mRI fun v h' => (ga h 2495 20 < ga h 2495 10 ∨ v = 0) ∧ h' = h : MO → MH → Prop) = Q
  change MW KX14_sign Q 0 0 (pcA pgX14_sign 0) [(0, (2, ((2495 : Nat) : Int)))] [] h
  obtain ⟨a0, ha0⟩ : ∃ x : Int, x = ga h 2495 20 := ⟨_, rfl⟩
  obtain ⟨z0, hz0⟩ : ∃ x : Int, x = ga h 2495 10 := ⟨_, rfl⟩
  have ha1 : 0 ≤ a0 ∧ a0 ≤ z0 := by rw [ha0, hz0]; exact ha
  have hz1 : z0 ≤ 50 := by rw [hz0]; exact hz
  refine hd_aload pkX14_sign rfl rfl (Int.natCast_nonneg _) ?_
  refine hd_getI pkX14_sign rfl (g.cell 0 rfl).1 (g.cell 0 rfl).2.1 (fun v1 ev1 rv1 => ?_)
  have qv1 : a0 = v1 := by rw [ev1]; exact ha0
  subst qv1
  refine hd_aload pkX14_sign rfl rfl (Int.natCast_nonneg _) ?_
  refine hd_getI pkX14_sign rfl (g.cell 0 rfl).1 (g.cell 0 rfl).2.1 (fun v2 ev2 rv2 => ?_)
  have qv2 : z0 = v2 := by rw [ev2]; exact hz0
  subst qv2
  refine hd_ic_ge pkX14_sign rfl (fun c3 => ?_) (fun c3 => ?_)
  · skip
    refine hd_ipush (z := 0) pkX14_sign rfl ?_
    refine hd_iret pkX14_sign rfl ?_
    subst eQ
    exact ⟨rfl, rfl, Or.inr rfl, rfl⟩
  · skip
    refine hd_aload pkX14_sign rfl rfl (Int.natCast_nonneg _) ?_
    refine hd_getR (n := 2504) pkX14_sign rfl (g.cell 0 rfl).1 (g.cell 0 rfl).2.1 (g.ref 8 rfl) ?_
    refine hd_aload pkX14_sign rfl rfl (Int.natCast_nonneg _) ?_
    refine hd_getI pkX14_sign rfl (g.cell 0 rfl).1 (g.cell 0 rfl).2.1 (fun v4 ev4 rv4 => ?_)
    have qv4 : a0 = v4 := by rw [ev4]; exact ha0
    subst qv4
    refine hd_iald (n := 50) pkX14_sign rfl (g.cell 9 rfl) (by omega) (by omega) (fun v5 ev5 rv5 => ?_)
    refine hd_goto pkX14_sign rfl ?_
    refine hd_iret pkX14_sign rfl ?_
    subst eQ
    exact ⟨rfl, rfl, Or.inl (by omega), rfl⟩
set_option maxRecDepth 20000 in
set_option maxHeartbeats 8000000 in
theorem h_X14_isDigit {h : MH} {k : Int} (hk : 0 ≤ k) (ha : 0 ≤ ga h 2495 20 ∧ ga h 2495 20 ≤ ga h 2495 10) (hz : ga h 2495 10 ≤ 50) (g : Str t14 r14 h) : MCal KX14_isDigit yX14_isDigit 0 0 [(2, ((2495 : Nat) : Int)), (0, k)] h (mRI fun v h' => (v = 0 ∨ (v = 1 ∧ k < ga h 2495 10 ∧ 48 ≤ ga h 2504 k ∧ ga h 2504 k ≤ 57)) ∧ h' = h) := by
  refine MCal.ofMW (Or.inl rfl) ⟨cp_X14, rfl⟩ (Nat.le_of_ble_eq_true rfl) ?_
  generalize eQ : (mRI fun v h' => (v = 0 ∨ (v = 1 ∧ k < ga h 2495 10 ∧ 48 ≤ ga h 2504 k ∧ ga h 2504 k ≤ 57)) ∧ h' = h : MO → MH → Prop) = Q
  change MW KX14_isDigit Q 0 0 (pcA pgX14_isDigit 0) [(0, (2, ((2495 : Nat) : Int))), (1, (0, k))] [] h
  refine hd_locI (i := 1) rfl (fun rk => ?_)
  obtain ⟨a0, ha0⟩ : ∃ x : Int, x = ga h 2495 20 := ⟨_, rfl⟩
  obtain ⟨z0, hz0⟩ : ∃ x : Int, x = ga h 2495 10 := ⟨_, rfl⟩
  have ha1 : 0 ≤ a0 ∧ a0 ≤ z0 := by rw [ha0, hz0]; exact ha
  have hz1 : z0 ≤ 50 := by rw [hz0]; exact hz
  have cut18 : ∀ (_ : True), MW KX14_isDigit Q 0 0 (pcA pgX14_isDigit 18) [(0, (2, ((2495 : Nat) : Int))), (1, (0, k))] [] h := by
    intro _
    refine hd_ipush (z := 0) pkX14_isDigit rfl ?_
    refine hd_zret pkX14_isDigit rfl (by omega) ?_
    subst eQ
    exact ⟨rfl, rfl, Or.inl rfl, rfl⟩
  refine hd_iload pkX14_isDigit rfl rfl ?_
  refine hd_aload pkX14_isDigit rfl rfl (Int.natCast_nonneg _) ?_
  refine hd_getI pkX14_isDigit rfl (g.cell 0 rfl).1 (g.cell 0 rfl).2.1 (fun v1 ev1 rv1 => ?_)
  have qv1 : z0 = v1 := by rw [ev1]; exact hz0
  subst qv1
  refine hd_ic_ge pkX14_isDigit rfl (fun c2 => ?_) (fun c2 => ?_)
  · skip
    refine cut18 trivial
  · skip
    refine hd_aload pkX14_isDigit rfl rfl (Int.natCast_nonneg _) ?_
    refine hd_getR (n := 2504) pkX14_isDigit rfl (g.cell 0 rfl).1 (g.cell 0 rfl).2.1 (g.ref 8 rfl) ?_
    refine hd_iload pkX14_isDigit rfl rfl ?_
    refine hd_iald (n := 50) pkX14_isDigit rfl (g.cell 9 rfl) (by omega) (by omega) (fun v3 ev3 rv3 => ?_)
    have t7 : v3 = ga h 2504 k := ev3
    refine hd_ipush (z := 48) pkX14_isDigit rfl ?_
    refine hd_ic_lt pkX14_isDigit rfl (fun c4 => ?_) (fun c4 => ?_)
    · skip
      refine cut18 trivial
    · skip
      refine hd_aload pkX14_isDigit rfl rfl (Int.natCast_nonneg _) ?_
      refine hd_getR (n := 2504) pkX14_isDigit rfl (g.cell 0 rfl).1 (g.cell 0 rfl).2.1 (g.ref 8 rfl) ?_
      refine hd_iload pkX14_isDigit rfl rfl ?_
      refine hd_iald (n := 50) pkX14_isDigit rfl (g.cell 9 rfl) (by omega) (by omega) (fun v5 ev5 rv5 => ?_)
      have t13 : v5 = ga h 2504 k := ev5
      refine hd_ipush (z := 57) pkX14_isDigit rfl ?_
      refine hd_ic_gt pkX14_isDigit rfl (fun c6 => ?_) (fun c6 => ?_)
      · skip
        refine cut18 trivial
      · skip
        refine hd_ipush (z := 1) pkX14_isDigit rfl ?_
        refine hd_goto pkX14_isDigit rfl ?_
        refine hd_zret pkX14_isDigit rfl (by omega) ?_
        subst eQ
        exact ⟨rfl, rfl, Or.inr ⟨rfl, by omega, by omega, by omega⟩, rfl⟩
set_option maxRecDepth 20000 in
set_option maxHeartbeats 8000000 in
theorem h_X14_readNumber {h : MH} (ha : 0 ≤ ga h 2495 20 ∧ ga h 2495 20 ≤ ga h 2495 10) (hz : ga h 2495 10 ≤ 50) (g : Str t14 r14 h) : MCal KX14_readNumber yX14_readNumber 0 0 [(2, ((2495 : Nat) : Int))] h (mRI fun v h' => (0 ≤ v ∧ v ≤ 12) ∧ RF h h' ∧ Only [2495] h h' ∧ Str t14 r14 h') := by
  refine MCal.ofMW (Or.inl rfl) ⟨cp_X14, rfl⟩ (Nat.le_of_ble_eq_true rfl) ?_
  generalize eQ : (mRI fun v h' => (0 ≤ v ∧ v ≤ 12) ∧ RF h h' ∧ Only [2495] h h' ∧ Str t14 r14 h' : MO → MH → Prop) = Q
  change MW KX14_readNumber Q 0 0 (pcA pgX14_readNumber 0) [(0, (2, ((2495 : Nat) : Int)))] [] h
  obtain ⟨a0, ha0⟩ : ∃ x : Int, x = ga h 2495 20 := ⟨_, rfl⟩
  obtain ⟨z0, hz0⟩ : ∃ x : Int, x = ga h 2495 10 := ⟨_, rfl⟩
  have ha1 : 0 ≤ a0 ∧ a0 ≤ z0 := by rw [ha0, hz0]; exact ha
  have hz1 : z0 ≤ 50 := by rw [hz0]; exact hz
  have cut17 : ∀ (dg : Int), (0 ≤ dg ∧ dg ≤ 2) → (∀ j : Int, a0 ≤ j → j < a0 + dg → j < z0 ∧ 48 ≤ ga h 2504 j ∧ ga h 2504 j ≤ 57) → MW KX14_readNumber Q 0 0 (pcA pgX14_readNumber 17) [(0, (2, ((2495 : Nat) : Int)))] [(0, dg)] h := by
    intro dg dgv td
    refine hd_istore pkX14_readNumber rfl rfl ?_
    change MW _ _ _ _ _ [(1, (0, dg)), (0, (2, ((2495 : Nat) : Int)))] _ _
    refine hd_ipush (z := 0) pkX14_readNumber rfl ?_
    refine hd_istore pkX14_readNumber rfl rfl ?_
    change MW _ _ _ _ _ [(2, (0, 0)), (1, (0, dg)), (0, (2, ((2495 : Nat) : Int)))] _ _
    refine hd_aload pkX14_readNumber rfl rfl (Int.natCast_nonneg _) ?_
    refine hd_getI pkX14_readNumber rfl (g.cell 0 rfl).1 (g.cell 0 rfl).2.1 (fun v1 ev1 rv1 => ?_)
    have qv1 : a0 = v1 := by rw [ev1]; exact ha0
    subst qv1
    refine hd_istore pkX14_readNumber rfl rfl ?_
    change MW _ _ _ _ _ [(3, (0, a0)), (2, (0, 0)), (1, (0, dg)), (0, (2, ((2495 : Nat) : Int)))] _ _
    have lp23 : ∀ (N23 : Nat) (vv k : Int), (a0 ≤ k ∧ k ≤ a0 + dg) → ((k = a0 ∧ vv = 0) ∨ (k = a0 + 1 ∧ 0 ≤ vv ∧ vv ≤ 9) ∨ (k = a0 + 2 ∧ 0 ≤ vv ∧ vv ≤ 99)) → a0 + dg - k < (N23 : Int) → MW KX14_readNumber Q 0 0 (pcA pgX14_readNumber 23) [(0, (2, ((2495 : Nat) : Int))), (1, (0, dg)), (2, (0, vv)), (3, (0, k))] [] h := by
      intro N23
      induction N23 with
      | zero => intro vv k kb vb hm23; exfalso; omega
      | succ N23 ih23 =>
        intro vv k kb vb hm23
        refine hd_iload pkX14_readNumber rfl rfl ?_
        refine hd_aload pkX14_readNumber rfl rfl (Int.natCast_nonneg _) ?_
        refine hd_getI pkX14_readNumber rfl (g.cell 0 rfl).1 (g.cell 0 rfl).2.1 (fun v2 ev2 rv2 => ?_)
        have qv2 : a0 = v2 := by rw [ev2]; exact ha0
        subst qv2
        refine hd_iload pkX14_readNumber rfl rfl ?_
        refine hd_iadd pkX14_readNumber rfl (by omega) ?_
        refine hd_ic_ge pkX14_readNumber rfl (fun c3 => ?_) (fun c3 => ?_)
        · skip
          have cut54 : ∀ (_ : True), MW KX14_readNumber Q 0 0 (pcA pgX14_readNumber 54) [(0, (2, ((2495 : Nat) : Int))), (1, (0, dg)), (2, (0, vv)), (3, (0, k))] [] h := by
            intro _
            refine hd_ipush (z := 0) pkX14_readNumber rfl ?_
            refine hd_iret pkX14_readNumber rfl ?_
            subst eQ
            refine ⟨rfl, rfl, ?_, RF.refl ha, Only.refl _ _, g⟩
            show 0 ≤ (0 : Int) ∧ (0 : Int) ≤ 12
            omega
          refine hd_iload pkX14_readNumber rfl rfl ?_
          refine hd_if_eq pkX14_readNumber rfl (fun c4 => ?_) (fun c4 => ?_)
          · skip
            refine cut54 trivial
          · skip
            refine hd_aload pkX14_readNumber rfl rfl (Int.natCast_nonneg _) ?_
            refine hd_getR (n := 2504) pkX14_readNumber rfl (g.cell 0 rfl).1 (g.cell 0 rfl).2.1 (g.ref 8 rfl) ?_
            refine hd_aload pkX14_readNumber rfl rfl (Int.natCast_nonneg _) ?_
            refine hd_getI pkX14_readNumber rfl (g.cell 0 rfl).1 (g.cell 0 rfl).2.1 (fun v5 ev5 rv5 => ?_)
            have qv5 : a0 = v5 := by rw [ev5]; exact ha0
            subst qv5
            refine hd_iald (n := 50) pkX14_readNumber rfl (g.cell 9 rfl) (by omega) (by have tk := td a0 (by omega) (by omega); omega) (fun v6 ev6 rv6 => ?_)
            refine hd_ipush (z := 48) pkX14_readNumber rfl ?_
            refine hd_ic_eq pkX14_readNumber rfl (fun c7 => ?_) (fun c7 => ?_)
            · skip
              refine cut54 trivial
            · skip
              refine hd_iload pkX14_readNumber rfl rfl ?_
              refine hd_ipush (z := 12) pkX14_readNumber rfl ?_
              refine hd_ic_le pkX14_readNumber rfl (fun c8 => ?_) (fun c8 => ?_)
              · skip
                refine hd_aload pkX14_readNumber rfl rfl (Int.natCast_nonneg _) ?_
                refine hd_dup pkX14_readNumber rfl rfl ?_
                refine hd_getI pkX14_readNumber rfl (g.cell 0 rfl).1 (g.cell 0 rfl).2.1 (fun v9 ev9 rv9 => ?_)
                have qv9 : a0 = v9 := by rw [ev9]; exact ha0
                subst qv9
                refine hd_iload pkX14_readNumber rfl rfl ?_
                refine hd_iadd pkX14_readNumber rfl (by omega) ?_
                refine hd_putI pkX14_readNumber rfl (g.cell 0 rfl).1 (g.cell 0 rfl).2.1 (fun hh10 ehh10 => ?_)
                have ghh10 : Str t14 r14 hh10 := by rw [ehh10]; exact g.setF rfl
                have rf : RF h hh10 := (RF.refl ha).at ehh10 (by have q := td (a0 + dg - 1); rw [← hz0]; omega)
                have ow := Only.wr ehh10
                refine hd_iload pkX14_readNumber rfl rfl ?_
                refine hd_iret pkX14_readNumber rfl ?_
                subst eQ
                refine ⟨rfl, rfl, ?_, rf, ow, ghh10⟩
                show 0 ≤ (vv : Int) ∧ (vv : Int) ≤ 12
                omega
              · skip
                refine cut54 trivial
        · skip
          refine hd_ipush (z := 10) pkX14_readNumber rfl ?_
          refine hd_iload pkX14_readNumber rfl rfl ?_
          refine hd_imul pkX14_readNumber rfl (by omega) ?_
          refine hd_aload pkX14_readNumber rfl rfl (Int.natCast_nonneg _) ?_
          refine hd_getR (n := 2504) pkX14_readNumber rfl (g.cell 0 rfl).1 (g.cell 0 rfl).2.1 (g.ref 8 rfl) ?_
          refine hd_iload pkX14_readNumber rfl rfl ?_
          refine hd_iald (n := 50) pkX14_readNumber rfl (g.cell 9 rfl) (by omega) (by have tk := td k (by omega) (by omega); omega) (fun v11 ev11 rv11 => ?_)
          have tk := td k (by omega) (by omega)
          have ek : v11 = ga h 2504 k := ev11
          refine hd_iadd pkX14_readNumber rfl (by omega) ?_
          refine hd_ipush (z := 48) pkX14_readNumber rfl ?_
          refine hd_isub pkX14_readNumber rfl (by omega) ?_
          refine hd_istore pkX14_readNumber rfl rfl ?_
          change MW _ _ _ _ _ [(2, (0, (((10 * vv) + v11) - 48))), (0, (2, ((2495 : Nat) : Int))), (1, (0, dg)), (3, (0, k))] _ _
          refine hd_iinc (z := 1) pkX14_readNumber rfl rfl (by omega) rfl ?_
          change MW _ _ _ _ _ [(3, (0, (k + 1))), (2, (0, (((10 * vv) + v11) - 48))), (0, (2, ((2495 : Nat) : Int))), (1, (0, dg))] _ _
          refine hd_goto pkX14_readNumber rfl ?_
          refine m_sub [(0, (2, ((2495 : Nat) : Int))), (1, (0, dg)), (2, (0, (((10 * vv) + v11) - 48))), (3, (0, (k + 1)))] (List.forall_mem_cons.mpr ⟨rfl, List.forall_mem_cons.mpr ⟨rfl, List.forall_mem_cons.mpr ⟨rfl, List.forall_mem_cons.mpr ⟨rfl, fun _ h => absurd h List.not_mem_nil⟩⟩⟩⟩) ?_
          refine ih23  ((((10 * vv) + v11) - 48)) ((k + 1)) ?_ ?_ ?_
          · omega
          · omega
          · omega
    refine m_sub [(0, (2, ((2495 : Nat) : Int))), (1, (0, dg)), (2, (0, 0)), (3, (0, a0))] (List.forall_mem_cons.mpr ⟨rfl, List.forall_mem_cons.mpr ⟨rfl, List.forall_mem_cons.mpr ⟨rfl, List.forall_mem_cons.mpr ⟨rfl, fun _ h => absurd h List.not_mem_nil⟩⟩⟩⟩) ?_
    refine lp23 ((a0 + dg - (a0)) + 1).toNat (0) (a0) ?_ ?_ ?_
    · omega
    · omega
    · omega
  refine hd_aload pkX14_readNumber rfl rfl (Int.natCast_nonneg _) ?_
  refine hd_aload pkX14_readNumber rfl rfl (Int.natCast_nonneg _) ?_
  refine hd_getI pkX14_readNumber rfl (g.cell 0 rfl).1 (g.cell 0 rfl).2.1 (fun v12 ev12 rv12 => ?_)
  have qv12 : a0 = v12 := by rw [ev12]; exact ha0
  subst qv12
  refine hd_callV pkX14_readNumber rfl (q := (KX14_isDigit, yX14_isDigit, 14, 1, 0)) rfl rfl rfl (As := [(0, a0)]) (rest := []) (c := 2495) rfl rfl (Nat.le_of_ble_eq_true rfl) (g.cell 0 rfl).1 (g.cell 0 rfl).2.1 (h_X14_isDigit (by omega) ha hz g) (hd_bI (fun da hc13 pda => ?_))
  obtain ⟨pda, ehc13⟩ := pda
  replace ehc13 := ehc13.symm
  subst ehc13
  refine hd_if_eq pkX14_readNumber rfl (fun c14 => ?_) (fun c14 => ?_)
  · skip
    refine hd_ipush (z := 0) pkX14_readNumber rfl ?_
    refine cut17 (0) ?_ ?_
    · omega
    · intro j j0 j1
      omega
  · skip
    refine hd_aload pkX14_readNumber rfl rfl (Int.natCast_nonneg _) ?_
    refine hd_aload pkX14_readNumber rfl rfl (Int.natCast_nonneg _) ?_
    refine hd_getI pkX14_readNumber rfl (g.cell 0 rfl).1 (g.cell 0 rfl).2.1 (fun v15 ev15 rv15 => ?_)
    have qv15 : a0 = v15 := by rw [ev15]; exact ha0
    subst qv15
    refine hd_ipush (z := 1) pkX14_readNumber rfl ?_
    refine hd_iadd pkX14_readNumber rfl (by omega) ?_
    refine hd_callV pkX14_readNumber rfl (q := (KX14_isDigit, yX14_isDigit, 14, 1, 0)) rfl rfl rfl (As := [(0, (a0 + 1))]) (rest := []) (c := 2495) rfl rfl (Nat.le_of_ble_eq_true rfl) (g.cell 0 rfl).1 (g.cell 0 rfl).2.1 (h_X14_isDigit (by omega) ha hz g) (hd_bI (fun db hc16 pdb => ?_))
    obtain ⟨pdb, ehc16⟩ := pdb
    replace ehc16 := ehc16.symm
    subst ehc16
    refine hd_if_eq pkX14_readNumber rfl (fun c17 => ?_) (fun c17 => ?_)
    · skip
      refine hd_ipush (z := 1) pkX14_readNumber rfl ?_
      refine hd_goto pkX14_readNumber rfl ?_
      refine cut17 (1) ?_ ?_
      · omega
      · intro j j0 j1
        have ej : j = a0 := by omega
        rw [ej, hz0]
        exact ((pda.resolve_left (by omega)).2)
    · skip
      refine hd_ipush (z := 2) pkX14_readNumber rfl ?_
      refine hd_goto pkX14_readNumber rfl ?_
      refine cut17 (2) ?_ ?_
      · omega
      · intro j j0 j1
        rw [hz0]
        by_cases q : j = a0
        · rw [q]
          exact (pda.resolve_left (by omega)).2
        · have ej : j = a0 + 1 := by omega
          rw [ej]
          exact (pdb.resolve_left (by omega)).2
set_option maxRecDepth 20000 in
set_option maxHeartbeats 8000000 in
theorem h_X14_readNode {h : MH} {k : Int} (hk : 0 ≤ k ∧ k < 4) (ha : 0 ≤ ga h 2495 20 ∧ ga h 2495 20 ≤ ga h 2495 10) (hz : ga h 2495 10 ≤ 50) (g : Str t14 r14 h) : MCal KX14_readNode yX14_readNode 0 0 [(2, ((2495 : Nat) : Int)), (0, k)] h (mRI fun v h' => (v = 0 ∨ v = 1) ∧ RF h h' ∧ Only [2495, 2511, 2512] h h' ∧ Str t14 r14 h') := by
  refine MCal.ofMW (Or.inl rfl) ⟨cp_X14, rfl⟩ (Nat.le_of_ble_eq_true rfl) ?_
  generalize eQ : (mRI fun v h' => (v = 0 ∨ v = 1) ∧ RF h h' ∧ Only [2495, 2511, 2512] h h' ∧ Str t14 r14 h' : MO → MH → Prop) = Q
  change MW KX14_readNode Q 0 0 (pcA pgX14_readNode 0) [(0, (2, ((2495 : Nat) : Int))), (1, (0, k))] [] h
  refine hd_locI (i := 1) rfl (fun rk => ?_)
  obtain ⟨a0, ha0⟩ : ∃ x : Int, x = ga h 2495 20 := ⟨_, rfl⟩
  obtain ⟨z0, hz0⟩ : ∃ x : Int, x = ga h 2495 10 := ⟨_, rfl⟩
  have ha1 : 0 ≤ a0 ∧ a0 ≤ z0 := by rw [ha0, hz0]; exact ha
  have hz1 : z0 ≤ 50 := by rw [hz0]; exact hz
  have rf : RF h h := RF.refl ha
  have ow : Only [2495, 2511, 2512] h h := Only.refl _ _
  have ea : ga h 2495 20 = a0 := ha0.symm
  refine hd_aload pkX14_readNode rfl rfl (Int.natCast_nonneg _) ?_
  refine hd_callV pkX14_readNode rfl (q := (KX14_sign, yX14_sign, 14, 0, 0)) rfl rfl rfl (As := []) (rest := []) (c := 2495) rfl rfl (Nat.le_of_ble_eq_true rfl) (g.cell 0 rfl).1 (g.cell 0 rfl).2.1 (h_X14_sign ha hz g) (hd_bI (fun cs hc1 psg => ?_))
  obtain ⟨psg, ehc1⟩ := psg
  replace ehc1 := ehc1.symm
  subst ehc1
  refine hd_istore pkX14_readNode rfl rfl ?_
  change MW _ _ _ _ _ [(2, (0, cs)), (0, (2, ((2495 : Nat) : Int))), (1, (0, k))] _ _
  have cut17 : ∀ (_ : True), (a0 < z0) → MW KX14_readNode Q 0 0 (pcA pgX14_readNode 17) [(0, (2, ((2495 : Nat) : Int))), (1, (0, k)), (2, (0, cs))] [] h := by
    intro _ az
    refine hd_aload pkX14_readNode rfl rfl (Int.natCast_nonneg _) ?_
    refine hd_getR (n := 2511) pkX14_readNode rfl (g.cell 0 rfl).1 (g.cell 0 rfl).2.1 (g.ref 15 rfl) ?_
    refine hd_iload pkX14_readNode rfl rfl ?_
    have cut29 : ∀ (b1 : Int), (b1 = 0 ∨ b1 = 1) → MW KX14_readNode Q 0 0 (pcA pgX14_readNode 29) [(0, (2, ((2495 : Nat) : Int))), (1, (0, k)), (2, (0, cs))] [(0, b1), (0, k), (2, ((2511 : Nat) : Int))] h := by
      intro b1 b1v
      refine hd_zast (n := 4) pkX14_readNode rfl (g.cell 16 rfl) (by decide) (by omega) (by omega) (by omega) (fun hh2 ehh2 => ?_)
      have ghh2 : Str t14 r14 hh2 := by rw [ehh2]; exact g.setA rfl
      have rf := rf.cel ehh2 (by decide) (by decide)
      have ow := ow.trans ((Only.wr ehh2).mono (by decide))
      have ea := ((Only.wr ehh2).ga (d := 2495) (by decide) 20).trans ea
      refine hd_aload pkX14_readNode rfl rfl (Int.natCast_nonneg _) ?_
      refine hd_getR (n := 2512) pkX14_readNode rfl (ghh2.cell 0 rfl).1 (ghh2.cell 0 rfl).2.1 (ghh2.ref 16 rfl) ?_
      refine hd_iload pkX14_readNode rfl rfl ?_
      have cut42 : ∀ (b2 : Int), (b2 = 0 ∨ b2 = 1) → MW KX14_readNode Q 0 0 (pcA pgX14_readNode 42) [(0, (2, ((2495 : Nat) : Int))), (1, (0, k)), (2, (0, cs))] [(0, b2), (0, k), (2, ((2512 : Nat) : Int))] hh2 := by
        intro b2 b2v
        refine hd_zast (n := 4) pkX14_readNode rfl (ghh2.cell 17 rfl) (by decide) (by omega) (by omega) (by omega) (fun hh3 ehh3 => ?_)
        have ghh3 : Str t14 r14 hh3 := by rw [ehh3]; exact ghh2.setA rfl
        have rf := rf.cel ehh3 (by decide) (by decide)
        have ow := ow.trans ((Only.wr ehh3).mono (by decide))
        have ea := ((Only.wr ehh3).ga (d := 2495) (by decide) 20).trans ea
        refine hd_aload pkX14_readNode rfl rfl (Int.natCast_nonneg _) ?_
        refine hd_dup pkX14_readNode rfl rfl ?_
        refine hd_getI pkX14_readNode rfl (ghh3.cell 0 rfl).1 (ghh3.cell 0 rfl).2.1 (fun v4 ev4 rv4 => ?_)
        have qv4 : a0 = v4 := by rw [ev4]; exact ea.symm
        subst qv4
        refine hd_ipush (z := 1) pkX14_readNode rfl ?_
        refine hd_iadd pkX14_readNode rfl (by omega) ?_
        refine hd_putI pkX14_readNode rfl (ghh3.cell 0 rfl).1 (ghh3.cell 0 rfl).2.1 (fun hh5 ehh5 => ?_)
        have ghh5 : Str t14 r14 hh5 := by rw [ehh5]; exact ghh3.setF rfl
        have rf := rf.at ehh5 (by rw [rf.2.1 10 (by decide) (by decide), ← hz0]; omega)
        have ow := ow.trans ((Only.wr ehh5).mono (by decide))
        refine hd_ipush (z := 1) pkX14_readNode rfl ?_
        refine hd_zret pkX14_readNode rfl (by omega) ?_
        subst eQ
        exact ⟨rfl, rfl, Or.inr rfl, rf, ow, ghh5⟩
      refine hd_iload pkX14_readNode rfl rfl ?_
      refine hd_ipush (z := 84) pkX14_readNode rfl ?_
      refine hd_ic_eq pkX14_readNode rfl (fun c6 => ?_) (fun c6 => ?_)
      · skip
        refine hd_ipush (z := 1) pkX14_readNode rfl ?_
        refine hd_goto pkX14_readNode rfl ?_
        refine cut42 (1) ?_
        · omega
      · skip
        refine hd_iload pkX14_readNode rfl rfl ?_
        refine hd_ipush (z := 70) pkX14_readNode rfl ?_
        refine hd_ic_ne pkX14_readNode rfl (fun c7 => ?_) (fun c7 => ?_)
        · skip
          refine hd_ipush (z := 0) pkX14_readNode rfl ?_
          refine cut42 (0) ?_
          · omega
        · skip
          refine hd_ipush (z := 1) pkX14_readNode rfl ?_
          refine hd_goto pkX14_readNode rfl ?_
          refine cut42 (1) ?_
          · omega
    refine hd_iload pkX14_readNode rfl rfl ?_
    refine hd_ipush (z := 83) pkX14_readNode rfl ?_
    refine hd_ic_eq pkX14_readNode rfl (fun c8 => ?_) (fun c8 => ?_)
    · skip
      refine hd_ipush (z := 1) pkX14_readNode rfl ?_
      refine hd_goto pkX14_readNode rfl ?_
      refine cut29 (1) ?_
      · omega
    · skip
      refine hd_iload pkX14_readNode rfl rfl ?_
      refine hd_ipush (z := 70) pkX14_readNode rfl ?_
      refine hd_ic_ne pkX14_readNode rfl (fun c9 => ?_) (fun c9 => ?_)
      · skip
        refine hd_ipush (z := 0) pkX14_readNode rfl ?_
        refine cut29 (0) ?_
        · omega
      · skip
        refine hd_ipush (z := 1) pkX14_readNode rfl ?_
        refine hd_goto pkX14_readNode rfl ?_
        refine cut29 (1) ?_
        · omega
  refine hd_iload pkX14_readNode rfl rfl ?_
  refine hd_ipush (z := 46) pkX14_readNode rfl ?_
  refine hd_ic_eq pkX14_readNode rfl (fun c10 => ?_) (fun c10 => ?_)
  · skip
    refine m_sub [(0, (2, ((2495 : Nat) : Int))), (1, (0, k)), (2, (0, cs))] (List.forall_mem_cons.mpr ⟨rfl, List.forall_mem_cons.mpr ⟨rfl, List.forall_mem_cons.mpr ⟨rfl, fun _ h => absurd h List.not_mem_nil⟩⟩⟩) ?_
    refine cut17 trivial ?_
    · omega
  · skip
    refine hd_iload pkX14_readNode rfl rfl ?_
    refine hd_ipush (z := 83) pkX14_readNode rfl ?_
    refine hd_ic_eq pkX14_readNode rfl (fun c11 => ?_) (fun c11 => ?_)
    · skip
      refine m_sub [(0, (2, ((2495 : Nat) : Int))), (1, (0, k)), (2, (0, cs))] (List.forall_mem_cons.mpr ⟨rfl, List.forall_mem_cons.mpr ⟨rfl, List.forall_mem_cons.mpr ⟨rfl, fun _ h => absurd h List.not_mem_nil⟩⟩⟩) ?_
      refine cut17 trivial ?_
      · omega
    · skip
      refine hd_iload pkX14_readNode rfl rfl ?_
      refine hd_ipush (z := 84) pkX14_readNode rfl ?_
      refine hd_ic_eq pkX14_readNode rfl (fun c12 => ?_) (fun c12 => ?_)
      · skip
        refine m_sub [(0, (2, ((2495 : Nat) : Int))), (1, (0, k)), (2, (0, cs))] (List.forall_mem_cons.mpr ⟨rfl, List.forall_mem_cons.mpr ⟨rfl, List.forall_mem_cons.mpr ⟨rfl, fun _ h => absurd h List.not_mem_nil⟩⟩⟩) ?_
        refine cut17 trivial ?_
        · omega
      · skip
        refine hd_iload pkX14_readNode rfl rfl ?_
        refine hd_ipush (z := 70) pkX14_readNode rfl ?_
        refine hd_ic_eq pkX14_readNode rfl (fun c13 => ?_) (fun c13 => ?_)
        · skip
          refine m_sub [(0, (2, ((2495 : Nat) : Int))), (1, (0, k)), (2, (0, cs))] (List.forall_mem_cons.mpr ⟨rfl, List.forall_mem_cons.mpr ⟨rfl, List.forall_mem_cons.mpr ⟨rfl, fun _ h => absurd h List.not_mem_nil⟩⟩⟩) ?_
          refine cut17 trivial ?_
          · omega
        · skip
          refine hd_ipush (z := 0) pkX14_readNode rfl ?_
          refine hd_zret pkX14_readNode rfl (by omega) ?_
          subst eQ
          exact ⟨rfl, rfl, Or.inl rfl, rf, ow, g⟩
