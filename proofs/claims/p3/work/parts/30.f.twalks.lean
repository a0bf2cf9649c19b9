/-! walks that throw -/
set_option maxRecDepth 20000 in
set_option maxHeartbeats 8000000 in
theorem tx_X0_setMember {h : MH} {k a b : Int} (hc : k < 0 ∨ ga h 161 0 ≤ k) (J : JJ zJ h) : MCalX (kTx KX0_setMember 7 110) yX0_setMember 1 6 [(2, ((161 : Nat) : Int)), (0, k), (0, a), (0, b)] h (XQ 1 h) := by
  refine MCalX.ofMW rfl ⟨cp_X0, rfl⟩ (Nat.le_of_ble_eq_true rfl) ?_
  have g : Str [(161, 16, 0)] [] h := str_of (by decide +kernel) J.1
  have pk : okP (kTx KX0_setMember 7 110) 0 pgX0_setMember = true := pkX0_setMember
  show MW (kTx KX0_setMember 7 110) (XQ 1 h) 1 6 (pcA pgX0_setMember 0) [(0, (2, ((161 : Nat) : Int))), (1, (0, k)), (2, (0, a)), (3, (0, b))] [] h
  refine hd_iload pk rfl rfl ?_
  refine hd_if_lt pk rfl (fun c1 => ?_) (fun c1 => ?_)
  · skip
    refine m_throw rfl 1 (th_X0_1 rfl) (by decide +kernel) (by decide +kernel) (by decide +kernel) (by decide +kernel) (by decide) (by decide) (by decide) (by decide) (by decide) (fun j => ?_)
    exact XQ.jnk J (Frm.refl _ _) j
  · skip
    refine hd_iload pk rfl rfl ?_
    refine hd_aload pk rfl rfl (Int.natCast_nonneg _) ?_
    refine hd_getI pk rfl (g.cell 0 rfl).1 (g.cell 0 rfl).2.1 (fun v2 ev2 rv2 => ?_)
    have qv2 : v2 = ga h 161 0 := ev2
    refine hd_ic_lt pk rfl (fun c3 => ?_) (fun c3 => ?_)
    · exfalso
      omega
    · skip
      refine m_throw rfl 1 (th_X0_1 rfl) (by decide +kernel) (by decide +kernel) (by decide +kernel) (by decide +kernel) (by decide) (by decide) (by decide) (by decide) (by decide) (fun j => ?_)
      exact XQ.jnk J (Frm.refl _ _) j
set_option maxRecDepth 20000 in
set_option maxHeartbeats 8000000 in
theorem tx_X0_setSupport {h : MH} {k a b : Int} (hc : k < 0 ∨ ga h 161 0 < k) (J : JJ zJ h) : MCalX (kTx KX0_setSupport 7 110) yX0_setSupport 1 6 [(2, ((161 : Nat) : Int)), (0, k), (0, a), (0, b)] h (XQ 1 h) := by
  refine MCalX.ofMW rfl ⟨cp_X0, rfl⟩ (Nat.le_of_ble_eq_true rfl) ?_
  have g : Str [(161, 16, 0)] [] h := str_of (by decide +kernel) J.1
  have pk : okP (kTx KX0_setSupport 7 110) 0 pgX0_setSupport = true := pkX0_setSupport
  show MW (kTx KX0_setSupport 7 110) (XQ 1 h) 1 6 (pcA pgX0_setSupport 0) [(0, (2, ((161 : Nat) : Int))), (1, (0, k)), (2, (0, a)), (3, (0, b))] [] h
  refine hd_iload pk rfl rfl ?_
  refine hd_if_lt pk rfl (fun c1 => ?_) (fun c1 => ?_)
  · skip
    refine m_throw rfl 1 (th_X0_1 rfl) (by decide +kernel) (by decide +kernel) (by decide +kernel) (by decide +kernel) (by decide) (by decide) (by decide) (by decide) (by decide) (fun j => ?_)
    exact XQ.jnk J (Frm.refl _ _) j
  · skip
    refine hd_iload pk rfl rfl ?_
    refine hd_aload pk rfl rfl (Int.natCast_nonneg _) ?_
    refine hd_getI pk rfl (g.cell 0 rfl).1 (g.cell 0 rfl).2.1 (fun v2 ev2 rv2 => ?_)
    have qv2 : v2 = ga h 161 0 := ev2
    refine hd_ic_le pk rfl (fun c3 => ?_) (fun c3 => ?_)
    · exfalso
      omega
    · skip
      refine m_throw rfl 1 (th_X0_1 rfl) (by decide +kernel) (by decide +kernel) (by decide +kernel) (by decide +kernel) (by decide) (by decide) (by decide) (by decide) (by decide) (fun j => ?_)
      exact XQ.jnk J (Frm.refl _ _) j
set_option maxRecDepth 20000 in
set_option maxHeartbeats 8000000 in
theorem tx_X0_setHinge {h : MH} {k a b : Int} (hc : k < 0 ∨ ga h 161 0 ≤ k) (J : JJ zJ h) : MCalX (kTx KX0_setHinge 7 110) yX0_setHinge 1 6 [(2, ((161 : Nat) : Int)), (0, k), (0, a), (0, b)] h (XQ 1 h) := by
  refine MCalX.ofMW rfl ⟨cp_X0, rfl⟩ (Nat.le_of_ble_eq_true rfl) ?_
  have g : Str [(161, 16, 0)] [] h := str_of (by decide +kernel) J.1
  have pk : okP (kTx KX0_setHinge 7 110) 0 pgX0_setHinge = true := pkX0_setHinge
  show MW (kTx KX0_setHinge 7 110) (XQ 1 h) 1 6 (pcA pgX0_setHinge 0) [(0, (2, ((161 : Nat) : Int))), (1, (0, k)), (2, (0, a)), (3, (0, b))] [] h
  refine hd_iload pk rfl rfl ?_
  refine hd_if_lt pk rfl (fun c1 => ?_) (fun c1 => ?_)
  · skip
    refine m_throw rfl 1 (th_X0_1 rfl) (by decide +kernel) (by decide +kernel) (by decide +kernel) (by decide +kernel) (by decide) (by decide) (by decide) (by decide) (by decide) (fun j => ?_)
    exact XQ.jnk J (Frm.refl _ _) j
  · skip
    refine hd_iload pk rfl rfl ?_
    refine hd_aload pk rfl rfl (Int.natCast_nonneg _) ?_
    refine hd_getI pk rfl (g.cell 0 rfl).1 (g.cell 0 rfl).2.1 (fun v2 ev2 rv2 => ?_)
    have qv2 : v2 = ga h 161 0 := ev2
    refine hd_ic_lt pk rfl (fun c3 => ?_) (fun c3 => ?_)
    · exfalso
      omega
    · skip
      refine m_throw rfl 1 (th_X0_1 rfl) (by decide +kernel) (by decide +kernel) (by decide +kernel) (by decide +kernel) (by decide) (by decide) (by decide) (by decide) (by decide) (fun j => ?_)
      exact XQ.jnk J (Frm.refl _ _) j
set_option maxRecDepth 20000 in
set_option maxHeartbeats 8000000 in
theorem tx_X7_begin4 {h : MH} {k : Int} (hc : k < 0) (J : JJ zJ h) : MCalX (kTx KX7_begin 7 110) yX7_begin 1 6 [(2, ((833 : Nat) : Int)), (0, k)] h (XQ 4 h) := by
  refine MCalX.ofMW rfl ⟨cp_X7, rfl⟩ (Nat.le_of_ble_eq_true rfl) ?_
  have g : Str [(833, 23, 0)] [(833, 3, 842), (833, 4, 843)] h := str_of (by decide +kernel) J.1
  have pk : okP (kTx KX7_begin 7 110) 7 pgX7_begin = true := pkX7_begin
  show MW (kTx KX7_begin 7 110) (XQ 4 h) 1 6 (pcA pgX7_begin 0) [(0, (2, ((833 : Nat) : Int))), (1, (0, k))] [] h
  refine hd_iload pk rfl rfl ?_
  refine hd_if_ge pk rfl (fun c1 => ?_) (fun c1 => ?_)
  · exfalso
    omega
  · skip
    refine m_throw rfl 4 (th_X7_4 rfl) (by decide +kernel) (by decide +kernel) (by decide +kernel) (by decide +kernel) (by decide) (by decide) (by decide) (by decide) (by decide) (fun j => ?_)
    exact XQ.jnk J (Frm.refl _ _) j
set_option maxRecDepth 20000 in
set_option maxHeartbeats 8000000 in
theorem tx_X7_begin2 {h : MH} {k : Int} (hc : 0 ≤ k ∧ (k < 1 ∨ 6 < k)) (J : JJ zJ h) : MCalX (kTx KX7_begin 7 110) yX7_begin 1 6 [(2, ((833 : Nat) : Int)), (0, k)] h (XQ 2 h) := by
  refine MCalX.ofMW rfl ⟨cp_X7, rfl⟩ (Nat.le_of_ble_eq_true rfl) ?_
  have g : Str [(833, 23, 0)] [(833, 3, 842), (833, 4, 843)] h := str_of (by decide +kernel) J.1
  have pk : okP (kTx KX7_begin 7 110) 7 pgX7_begin = true := pkX7_begin
  show MW (kTx KX7_begin 7 110) (XQ 2 h) 1 6 (pcA pgX7_begin 0) [(0, (2, ((833 : Nat) : Int))), (1, (0, k))] [] h
  refine hd_iload pk rfl rfl ?_
  refine hd_if_ge pk rfl (fun c1 => ?_) (fun c1 => ?_)
  · skip
    refine hd_iload pk rfl rfl ?_
    refine hd_ipush (z := 1) pk rfl ?_
    refine hd_ic_lt pk rfl (fun c2 => ?_) (fun c2 => ?_)
    · skip
      refine m_throw rfl 2 (th_X7_2 rfl) (by decide +kernel) (by decide +kernel) (by decide +kernel) (by decide +kernel) (by decide) (by decide) (by decide) (by decide) (by decide) (fun j => ?_)
      exact XQ.jnk J (Frm.refl _ _) j
    · skip
      refine hd_iload pk rfl rfl ?_
      refine hd_ipush (z := 6) pk rfl ?_
      refine hd_ic_le pk rfl (fun c3 => ?_) (fun c3 => ?_)
      · exfalso
        omega
      · skip
        refine m_throw rfl 2 (th_X7_2 rfl) (by decide +kernel) (by decide +kernel) (by decide +kernel) (by decide +kernel) (by decide) (by decide) (by decide) (by decide) (by decide) (fun j => ?_)
        exact XQ.jnk J (Frm.refl _ _) j
  · exfalso
    omega
set_option maxRecDepth 20000 in
set_option maxHeartbeats 8000000 in
theorem tx_X7_testGroup {h : MH} {k : Int} (hc : k < 0 ∨ ga h 833 0 ≤ k) (J : JJ zJ h) : MCalX (kTx KX7_testGroup 7 110) yX7_testGroup 1 6 [(2, ((833 : Nat) : Int)), (0, k)] h (XQ 1 h) := by
  refine MCalX.ofMW rfl ⟨cp_X7, rfl⟩ (Nat.le_of_ble_eq_true rfl) ?_
  have g : Str [(833, 23, 0)] [(833, 3, 842), (833, 4, 843)] h := str_of (by decide +kernel) J.1
  have pk : okP (kTx KX7_testGroup 7 110) 7 pgX7_testGroup = true := pkX7_testGroup
  show MW (kTx KX7_testGroup 7 110) (XQ 1 h) 1 6 (pcA pgX7_testGroup 0) [(0, (2, ((833 : Nat) : Int))), (1, (0, k))] [] h
  refine hd_iload pk rfl rfl ?_
  refine hd_if_lt pk rfl (fun c1 => ?_) (fun c1 => ?_)
  · skip
    refine m_throw rfl 1 (th_X7_1 rfl) (by decide +kernel) (by decide +kernel) (by decide +kernel) (by decide +kernel) (by decide) (by decide) (by decide) (by decide) (by decide) (fun j => ?_)
    exact XQ.jnk J (Frm.refl _ _) j
  · skip
    refine hd_iload pk rfl rfl ?_
    refine hd_aload pk rfl rfl (Int.natCast_nonneg _) ?_
    refine hd_getI pk rfl (g.cell 0 rfl).1 (g.cell 0 rfl).2.1 (fun v2 ev2 rv2 => ?_)
    have qv2 : v2 = ga h 833 0 := ev2
    refine hd_ic_lt pk rfl (fun c3 => ?_) (fun c3 => ?_)
    · exfalso
      omega
    · skip
      refine m_throw rfl 1 (th_X7_1 rfl) (by decide +kernel) (by decide +kernel) (by decide +kernel) (by decide +kernel) (by decide) (by decide) (by decide) (by decide) (by decide) (fun j => ?_)
      exact XQ.jnk J (Frm.refl _ _) j
set_option maxRecDepth 20000 in
set_option maxHeartbeats 8000000 in
theorem tx_X7_setTime {h : MH} {k a b : Int} {c : Nat} (hc : k < 0 ∨ ga h 833 0 ≤ k) (J : JJ zJ h) : MCalX (kTx KX7_setTime 8 2041) yX7_setTime 1 6 [(2, ((833 : Nat) : Int)), (2, ((c : Nat) : Int)), (0, k), (0, a), (0, b)] h (XQ 1 h) := by
  refine MCalX.ofMW rfl ⟨cp_X7, rfl⟩ (Nat.le_of_ble_eq_true rfl) ?_
  have g : Str [(833, 23, 0)] [(833, 3, 842), (833, 4, 843)] h := str_of (by decide +kernel) J.1
  have pk : okP (kTx KX7_setTime 8 2041) 7 pgX7_setTime = true := pkX7_setTime
  show MW (kTx KX7_setTime 8 2041) (XQ 1 h) 1 6 (pcA pgX7_setTime 0) [(0, (2, ((833 : Nat) : Int))), (1, (2, ((c : Nat) : Int))), (2, (0, k)), (3, (0, a)), (4, (0, b))] [] h
  refine hd_aload pk rfl rfl (Int.natCast_nonneg _) ?_
  refine hd_iload pk rfl rfl ?_
  refine hd_callXt pk rfl rfl (q := (KX7_testGroup, yX7_testGroup, 7, 1, 0)) rfl rfl (F := 7) (Lo := 110) rfl (As := [(0, k)]) (rest := []) (c := 833) rfl rfl (Nat.le_of_ble_eq_true rfl) (g.cell 0 rfl).1 (g.cell 0 rfl).2.1 (Nat.le_refl _) (Nat.le_refl _) (tx_X7_testGroup hc J) (fun r h2 q2 => ?_)
  exact ⟨by rw [q2.1], q2⟩
set_option maxRecDepth 20000 in
set_option maxHeartbeats 8000000 in
theorem tx_X7_setClasha {h : MH} {k a b : Int} (hc : k < 0 ∨ ga h 833 0 ≤ k) (J : JJ zJ h) : MCalX (kTx KX7_setClash 8 2041) yX7_setClash 1 6 [(2, ((833 : Nat) : Int)), (0, k), (0, a), (0, b)] h (XQ 1 h) := by
  refine MCalX.ofMW rfl ⟨cp_X7, rfl⟩ (Nat.le_of_ble_eq_true rfl) ?_
  have g : Str [(833, 23, 0)] [(833, 3, 842), (833, 4, 843)] h := str_of (by decide +kernel) J.1
  have pk : okP (kTx KX7_setClash 8 2041) 7 pgX7_setClash = true := pkX7_setClash
  show MW (kTx KX7_setClash 8 2041) (XQ 1 h) 1 6 (pcA pgX7_setClash 0) [(0, (2, ((833 : Nat) : Int))), (1, (0, k)), (2, (0, a)), (3, (0, b))] [] h
  refine hd_aload pk rfl rfl (Int.natCast_nonneg _) ?_
  refine hd_iload pk rfl rfl ?_
  refine hd_callXt pk rfl rfl (q := (KX7_testGroup, yX7_testGroup, 7, 1, 0)) rfl rfl (F := 7) (Lo := 110) rfl (As := [(0, k)]) (rest := []) (c := 833) rfl rfl (Nat.le_of_ble_eq_true rfl) (g.cell 0 rfl).1 (g.cell 0 rfl).2.1 (Nat.le_refl _) (Nat.le_refl _) (tx_X7_testGroup hc J) (fun r h2 q2 => ?_)
  exact ⟨by rw [q2.1], q2⟩
set_option maxRecDepth 20000 in
set_option maxHeartbeats 8000000 in
theorem tx_X7_setClashb {h : MH} {k a b : Int} (hk : 0 ≤ k ∧ k < ga h 833 0) (hc : a < 0 ∨ ga h 833 0 ≤ a) (J : JJ zJ h) : MCalX (kTx KX7_setClash 8 2041) yX7_setClash 1 6 [(2, ((833 : Nat) : Int)), (0, k), (0, a), (0, b)] h (XQ 1 h) := by
  refine MCalX.ofMW rfl ⟨cp_X7, rfl⟩ (Nat.le_of_ble_eq_true rfl) ?_
  have g : Str [(833, 23, 0)] [(833, 3, 842), (833, 4, 843)] h := str_of (by decide +kernel) J.1
  have pk : okP (kTx KX7_setClash 8 2041) 7 pgX7_setClash = true := pkX7_setClash
  show MW (kTx KX7_setClash 8 2041) (XQ 1 h) 1 6 (pcA pgX7_setClash 0) [(0, (2, ((833 : Nat) : Int))), (1, (0, k)), (2, (0, a)), (3, (0, b))] [] h
  refine hd_aload pk rfl rfl (Int.natCast_nonneg _) ?_
  refine hd_iload pk rfl rfl ?_
  refine hd_callV pk rfl (q := (KX7_testGroup, yX7_testGroup, 7, 1, 0)) rfl rfl rfl (As := [(0, k)]) (rest := []) (c := 833) rfl rfl (Nat.le_of_ble_eq_true rfl) (g.cell 0 rfl).1 (g.cell 0 rfl).2.1 (c_X7_testGroup J hk.1 hk.2) (hd_bV (fun hc1 p2 => ?_))
  have ghc1 : Str [(833, 23, 0)] [(833, 3, 842), (833, 4, 843)] hc1 := str_of (by decide +kernel) p2.1.1
  have J_hc1 := p2.1
  have F_hc1 : Frm [(2628, 0, 1, 0)] h hc1 := p2.2.nil
  have eg : ga hc1 833 0 = ga h 833 0 := (ga_gz (c := 833) (by decide) (by decide)).symm.trans ((p2.2.2.2 _ _ fun _ z => absurd z List.not_mem_nil).trans (ga_gz (c := 833) (by decide) (by decide)))
  refine hd_aload pk rfl rfl (Int.natCast_nonneg _) ?_
  refine hd_iload pk rfl rfl ?_
  refine hd_callXt pk rfl rfl (q := (KX7_testGroup, yX7_testGroup, 7, 1, 0)) rfl rfl (F := 7) (Lo := 110) rfl (As := [(0, a)]) (rest := []) (c := 833) rfl rfl (Nat.le_of_ble_eq_true rfl) (ghc1.cell 0 rfl).1 (ghc1.cell 0 rfl).2.1 (Nat.le_refl _) (Nat.le_refl _) (tx_X7_testGroup (by rw [eg]; exact hc) J_hc1) (fun r h2 q2 => ?_)
  exact ⟨q2.1 ▸ rfl, q2.trans F_hc1⟩
set_option maxRecDepth 20000 in
set_option maxHeartbeats 8000000 in
theorem tx_X3_plainEntries {h : MH} {k : Int} (hc : k < 0 ∨ ga h 1982 5 ≤ k) (J : JJ zJ h) : MCalX (kTx KX3_plainEntries 8 2041) yX3_plainEntries 1 6 [(2, ((1982 : Nat) : Int)), (0, k)] h (XQ 1 h) := by
  refine MCalX.ofMW rfl ⟨cp_X3, rfl⟩ (Nat.le_of_ble_eq_true rfl) ?_
  have g : Str [(1982, 19, 0)] [] h := str_of (by decide +kernel) J.1
  have pk : okP (kTx KX3_plainEntries 8 2041) 3 pgX3_plainEntries = true := pkX3_plainEntries
  show MW (kTx KX3_plainEntries 8 2041) (XQ 1 h) 1 6 (pcA pgX3_plainEntries 0) [(0, (2, ((1982 : Nat) : Int))), (1, (0, k))] [] h
  refine hd_aload pk rfl rfl (Int.natCast_nonneg _) ?_
  refine hd_iload pk rfl rfl ?_
  refine hd_callV pk rfl (q := (KX3_isItem, yX3_isItem, 3, 1, 0)) rfl rfl rfl (As := [(0, k)]) (rest := []) (c := 1982) rfl rfl (Nat.le_of_ble_eq_true rfl) (g.cell 0 rfl).1 (g.cell 0 rfl).2.1 (c_X3_isItem J hc) (hd_bI (fun w1 hc2 p3 => ?_))
  have ghc2 : Str [(1982, 19, 0)] [] hc2 := str_of (by decide +kernel) p3.2.1.1
  have J_hc2 := p3.2.1
  have F_hc2 : Frm [(2628, 0, 1, 0)] h hc2 := p3.2.2.nil
  have e_hc2 := p3.1
  refine hd_if_ne pk rfl (fun c4 => ?_) (fun c4 => ?_)
  · exfalso
    omega
  · skip
    refine m_throw rfl 1 (th_X3_1 rfl) (by decide +kernel) (by decide +kernel) (by decide +kernel) (by decide +kernel) (by decide) (by decide) (by decide) (by decide) (by decide) (fun j => ?_)
    exact XQ.jnk J_hc2 F_hc2 j
set_option maxRecDepth 20000 in
set_option maxHeartbeats 8000000 in
theorem tx_X4_run {h : MH} {k : Int} (hs : 0 ≤ ga h 35 0 + ga h 35 1 ∧ ga h 35 0 + ga h 35 1 ≤ 12) (hf : 0 ≤ ga h 35 2 ∧ ga h 35 2 ≤ 8) (hc : k < (ga h 35 0 + ga h 35 1) * ga h 35 2) (J : JJ zJ h) : MCalX (kTx KX4_run 8 2041) yX4_run 1 6 [(2, ((34 : Nat) : Int)), (0, k)] h (XQ 3 h) := by
  refine MCalX.ofMW rfl ⟨cp_X4, rfl⟩ (Nat.le_of_ble_eq_true rfl) ?_
  have g : Str [(34, 20, 0)] [] h := str_of (by decide +kernel) J.1
  have pk : okP (kTx KX4_run 8 2041) 4 pgX4_run = true := pkX4_run
  show MW (kTx KX4_run 8 2041) (XQ 3 h) 1 6 (pcA pgX4_run 0) [(0, (2, ((34 : Nat) : Int))), (1, (0, k))] [] h
  refine hd_aload pk rfl rfl (Int.natCast_nonneg _) ?_
  refine hd_callV pk rfl (q := (KX4_sources, yX4_sources, 4, 0, 0)) rfl rfl rfl (As := []) (rest := []) (c := 34) rfl rfl (Nat.le_of_ble_eq_true rfl) (g.cell 0 rfl).1 (g.cell 0 rfl).2.1 (c_X4_sources J) (hd_bI (fun v1 hc1 p2 => ?_))
  have ghc1 : Str [(34, 20, 0)] [] hc1 := str_of (by decide +kernel) p2.2.1.1
  have J1 := p2.2.1
  have F1 := p2.2.2
  have e1 := p2.1
  refine hd_aload pk rfl rfl (Int.natCast_nonneg _) ?_
  refine hd_callV pk rfl (q := (KX4_fillCount, yX4_fillCount, 4, 0, 0)) rfl rfl rfl (As := []) (rest := [(0, v1)]) (c := 34) rfl rfl (Nat.le_of_ble_eq_true rfl) (ghc1.cell 0 rfl).1 (ghc1.cell 0 rfl).2.1 (c_X4_fillCount J1) (hd_bI (fun v2 hc3 p4 => ?_))
  have ghc3 : Str [(34, 20, 0)] [] hc3 := str_of (by decide +kernel) p4.2.1.1
  have J_hc3 := p4.2.1
  have F_hc3 : Frm [(2628, 0, 1, 0)] h hc3 := (F1.trans p4.2.2).nil
  have e2 : v2 = ga h 35 2 := p4.1.trans ((ga_gz (c := 35) (by decide) (by decide)).symm.trans ((F1.2.2 _ _ fun _ z => absurd z List.not_mem_nil).trans (ga_gz (c := 35) (by decide) (by decide))))
  have hp : v1 * v2 ≤ 12 * 8 := Int.le_trans (Int.mul_le_mul_of_nonneg_right (show v1 ≤ 12 by omega) (show 0 ≤ v2 by omega)) (Int.mul_le_mul_of_nonneg_left (show v2 ≤ 8 by omega) (by decide))
  have hp0 : 0 ≤ v1 * v2 := Int.mul_nonneg (by omega) (by omega)
  have hp9 : k < v1 * v2 := by rw [e1, e2]; exact hc
  refine hd_imul pk rfl (by omega) ?_
  refine hd_iload pk rfl rfl ?_
  refine hd_ic_le pk rfl (fun c5 => ?_) (fun c5 => ?_)
  · exfalso
    omega
  · skip
    refine m_throw rfl 3 (th_X4_3 rfl) (by decide +kernel) (by decide +kernel) (by decide +kernel) (by decide +kernel) (by decide) (by decide) (by decide) (by decide) (by decide) (fun j => ?_)
    exact XQ.jnk J_hc3 F_hc3 j
set_option maxRecDepth 20000 in
set_option maxHeartbeats 8000000 in
theorem tx_X0_answer2 {h : MH} {a b c d : Int} (hc : a < 0 ∨ ga h 161 0 ≤ a) (J : JJ zJ h) : MCalX (kTx KX0_answer 9 2100) yX0_answer 1 6 [(2, ((161 : Nat) : Int)), (0, 2), (0, a), (0, b), (0, c), (0, d)] h (XQ 1 h) := by
  refine MCalX.ofMW rfl ⟨cp_X0, rfl⟩ (Nat.le_of_ble_eq_true rfl) ?_
  have g : Str [(161, 16, 0)] [] h := str_of (by decide +kernel) J.1
  have pk : okP (kTx KX0_answer 9 2100) 0 pgX0_answer = true := pkX0_answer
  show MW (kTx KX0_answer 9 2100) (XQ 1 h) 1 6 (pcA pgX0_answer 0) [(0, (2, ((161 : Nat) : Int))), (1, (0, 2)), (2, (0, a)), (3, (0, b)), (4, (0, c)), (5, (0, d))] [] h
  refine hd_iload pk rfl rfl ?_
  refine hd_sw (lo := 0) (t := 13) pk rfl rfl rfl (by decide) ?_
  refine hd_aload pk rfl rfl (Int.natCast_nonneg _) ?_
  refine hd_iload pk rfl rfl ?_
  refine hd_iload pk rfl rfl ?_
  refine hd_iload pk rfl rfl ?_
  refine hd_callXt pk rfl rfl (q := (KX0_setMember, yX0_setMember, 0, 3, 0)) rfl rfl (F := 7) (Lo := 110) rfl (As := [(0, a), (0, b), (0, c)]) (rest := []) (c := 161) rfl rfl (Nat.le_of_ble_eq_true rfl) (g.cell 0 rfl).1 (g.cell 0 rfl).2.1 (Nat.le_refl _) (Nat.le_refl _) (tx_X0_setMember hc J) (fun r h2 q2 => ?_)
  exact ⟨by rw [q2.1], q2⟩
set_option maxRecDepth 20000 in
set_option maxHeartbeats 8000000 in
theorem tx_X0_answer3 {h : MH} {a b c d : Int} (hc : a < 0 ∨ ga h 161 0 < a) (J : JJ zJ h) : MCalX (kTx KX0_answer 9 2100) yX0_answer 1 6 [(2, ((161 : Nat) : Int)), (0, 3), (0, a), (0, b), (0, c), (0, d)] h (XQ 1 h) := by
  refine MCalX.ofMW rfl ⟨cp_X0, rfl⟩ (Nat.le_of_ble_eq_true rfl) ?_
  have g : Str [(161, 16, 0)] [] h := str_of (by decide +kernel) J.1
  have pk : okP (kTx KX0_answer 9 2100) 0 pgX0_answer = true := pkX0_answer
  show MW (kTx KX0_answer 9 2100) (XQ 1 h) 1 6 (pcA pgX0_answer 0) [(0, (2, ((161 : Nat) : Int))), (1, (0, 3)), (2, (0, a)), (3, (0, b)), (4, (0, c)), (5, (0, d))] [] h
  refine hd_iload pk rfl rfl ?_
  refine hd_sw (lo := 0) (t := 23) pk rfl rfl rfl (by decide) ?_
  refine hd_aload pk rfl rfl (Int.natCast_nonneg _) ?_
  refine hd_iload pk rfl rfl ?_
  refine hd_iload pk rfl rfl ?_
  refine hd_iload pk rfl rfl ?_
  refine hd_if_eq pk rfl (fun c1 => ?_) (fun c1 => ?_)
  · skip
    refine hd_ipush (z := 0) pk rfl ?_
    refine hd_callXt pk rfl rfl (q := (KX0_setSupport, yX0_setSupport, 0, 3, 0)) rfl rfl (F := 7) (Lo := 110) rfl (As := [(0, a), (0, b), (0, 0)]) (rest := []) (c := 161) rfl rfl (Nat.le_of_ble_eq_true rfl) (g.cell 0 rfl).1 (g.cell 0 rfl).2.1 (Nat.le_refl _) (Nat.le_refl _) (tx_X0_setSupport hc J) (fun r h2 q2 => ?_)
    exact ⟨by rw [q2.1], q2⟩
  · skip
    refine hd_ipush (z := 1) pk rfl ?_
    refine hd_goto pk rfl ?_
    refine hd_callXt pk rfl rfl (q := (KX0_setSupport, yX0_setSupport, 0, 3, 0)) rfl rfl (F := 7) (Lo := 110) rfl (As := [(0, a), (0, b), (0, 1)]) (rest := []) (c := 161) rfl rfl (Nat.le_of_ble_eq_true rfl) (g.cell 0 rfl).1 (g.cell 0 rfl).2.1 (Nat.le_refl _) (Nat.le_refl _) (tx_X0_setSupport hc J) (fun r h2 q2 => ?_)
    exact ⟨by rw [q2.1], q2⟩
set_option maxRecDepth 20000 in
set_option maxHeartbeats 8000000 in
theorem tx_X0_answer4 {h : MH} {a b c d : Int} (hc : a < 0 ∨ ga h 161 0 ≤ a) (J : JJ zJ h) : MCalX (kTx KX0_answer 9 2100) yX0_answer 1 6 [(2, ((161 : Nat) : Int)), (0, 4), (0, a), (0, b), (0, c), (0, d)] h (XQ 1 h) := by
  refine MCalX.ofMW rfl ⟨cp_X0, rfl⟩ (Nat.le_of_ble_eq_true rfl) ?_
  have g : Str [(161, 16, 0)] [] h := str_of (by decide +kernel) J.1
  have pk : okP (kTx KX0_answer 9 2100) 0 pgX0_answer = true := pkX0_answer
  show MW (kTx KX0_answer 9 2100) (XQ 1 h) 1 6 (pcA pgX0_answer 0) [(0, (2, ((161 : Nat) : Int))), (1, (0, 4)), (2, (0, a)), (3, (0, b)), (4, (0, c)), (5, (0, d))] [] h
  refine hd_iload pk rfl rfl ?_
  refine hd_sw (lo := 0) (t := 37) pk rfl rfl rfl (by decide) ?_
  refine hd_aload pk rfl rfl (Int.natCast_nonneg _) ?_
  refine hd_iload pk rfl rfl ?_
  refine hd_iload pk rfl rfl ?_
  refine hd_iload pk rfl rfl ?_
  refine hd_if_eq pk rfl (fun c1 => ?_) (fun c1 => ?_)
  · skip
    refine hd_ipush (z := 0) pk rfl ?_
    refine hd_callXt pk rfl rfl (q := (KX0_setHinge, yX0_setHinge, 0, 3, 0)) rfl rfl (F := 7) (Lo := 110) rfl (As := [(0, a), (0, b), (0, 0)]) (rest := []) (c := 161) rfl rfl (Nat.le_of_ble_eq_true rfl) (g.cell 0 rfl).1 (g.cell 0 rfl).2.1 (Nat.le_refl _) (Nat.le_refl _) (tx_X0_setHinge hc J) (fun r h2 q2 => ?_)
    exact ⟨by rw [q2.1], q2⟩
  · skip
    refine hd_ipush (z := 1) pk rfl ?_
    refine hd_goto pk rfl ?_
    refine hd_callXt pk rfl rfl (q := (KX0_setHinge, yX0_setHinge, 0, 3, 0)) rfl rfl (F := 7) (Lo := 110) rfl (As := [(0, a), (0, b), (0, 1)]) (rest := []) (c := 161) rfl rfl (Nat.le_of_ble_eq_true rfl) (g.cell 0 rfl).1 (g.cell 0 rfl).2.1 (Nat.le_refl _) (Nat.le_refl _) (tx_X0_setHinge hc J) (fun r h2 q2 => ?_)
    exact ⟨by rw [q2.1], q2⟩
set_option maxRecDepth 20000 in
set_option maxHeartbeats 8000000 in
theorem tx_X4_answer8 {h : MH} {a b c d : Int} (hs : 0 ≤ ga h 35 0 + ga h 35 1 ∧ ga h 35 0 + ga h 35 1 ≤ 12) (hf : 0 ≤ ga h 35 2 ∧ ga h 35 2 ≤ 8) (hc : a < (ga h 35 0 + ga h 35 1) * ga h 35 2) (J : JJ zJ h) : MCalX (kTx KX4_answer 9 2100) yX4_answer 1 6 [(2, ((34 : Nat) : Int)), (0, 8), (0, a), (0, b), (0, c), (0, d)] h (XQ 3 h) := by
  refine MCalX.ofMW rfl ⟨cp_X4, rfl⟩ (Nat.le_of_ble_eq_true rfl) ?_
  have g : Str [(34, 20, 0)] [] h := str_of (by decide +kernel) J.1
  have pk : okP (kTx KX4_answer 9 2100) 4 pgX4_answer = true := pkX4_answer
  show MW (kTx KX4_answer 9 2100) (XQ 3 h) 1 6 (pcA pgX4_answer 0) [(0, (2, ((34 : Nat) : Int))), (1, (0, 8)), (2, (0, a)), (3, (0, b)), (4, (0, c)), (5, (0, d))] [] h
  refine hd_iload pk rfl rfl ?_
  refine hd_sw (lo := 0) (t := 71) pk rfl rfl rfl (by decide) ?_
  refine hd_aload pk rfl rfl (Int.natCast_nonneg _) ?_
  refine hd_iload pk rfl rfl ?_
  refine hd_callXt pk rfl rfl (q := (KX4_run, yX4_run, 4, 1, 0)) rfl rfl (F := 8) (Lo := 2041) rfl (As := [(0, a)]) (rest := []) (c := 34) rfl rfl (Nat.le_of_ble_eq_true rfl) (g.cell 0 rfl).1 (g.cell 0 rfl).2.1 (Nat.le_refl _) (Nat.le_refl _) (tx_X4_run hs hf hc J) (fun r h2 q2 => ?_)
  exact ⟨by rw [q2.1], q2⟩
set_option maxRecDepth 20000 in
set_option maxHeartbeats 8000000 in
theorem tx_X7_answer0n {h : MH} {a b c : Int} (hc : a < 0) (J : JJ zJ h) : MCalX (kTx KX7_answer 9 2100) yX7_answer 1 6 [(2, ((833 : Nat) : Int)), (0, 0), (0, a), (0, b), (0, c)] h (XQ 4 h) := by
  refine MCalX.ofMW rfl ⟨cp_X7, rfl⟩ (Nat.le_of_ble_eq_true rfl) ?_
  have g : Str [(833, 23, 0)] [(833, 3, 842), (833, 4, 843)] h := str_of (by decide +kernel) J.1
  have pk : okP (kTx KX7_answer 9 2100) 7 pgX7_answer = true := pkX7_answer
  show MW (kTx KX7_answer 9 2100) (XQ 4 h) 1 6 (pcA pgX7_answer 0) [(0, (2, ((833 : Nat) : Int))), (1, (0, 0)), (2, (0, a)), (3, (0, b)), (4, (0, c))] [] h
  refine hd_iload pk rfl rfl ?_
  refine hd_sw (lo := 0) (t := 2) pk rfl rfl rfl (by decide) ?_
  refine hd_aload pk rfl rfl (Int.natCast_nonneg _) ?_
  refine hd_iload pk rfl rfl ?_
  refine hd_callXt pk rfl rfl (q := (KX7_begin, yX7_begin, 7, 1, 0)) rfl rfl (F := 7) (Lo := 110) rfl (As := [(0, a)]) (rest := []) (c := 833) rfl rfl (Nat.le_of_ble_eq_true rfl) (g.cell 0 rfl).1 (g.cell 0 rfl).2.1 (Nat.le_refl _) (Nat.le_refl _) (tx_X7_begin4 hc J) (fun r h2 q2 => ?_)
  exact ⟨by rw [q2.1], q2⟩
set_option maxRecDepth 20000 in
set_option maxHeartbeats 8000000 in
theorem tx_X7_answer0i {h : MH} {a b c : Int} (hc : 0 ≤ a ∧ (a < 1 ∨ 6 < a)) (J : JJ zJ h) : MCalX (kTx KX7_answer 9 2100) yX7_answer 1 6 [(2, ((833 : Nat) : Int)), (0, 0), (0, a), (0, b), (0, c)] h (XQ 2 h) := by
  refine MCalX.ofMW rfl ⟨cp_X7, rfl⟩ (Nat.le_of_ble_eq_true rfl) ?_
  have g : Str [(833, 23, 0)] [(833, 3, 842), (833, 4, 843)] h := str_of (by decide +kernel) J.1
  have pk : okP (kTx KX7_answer 9 2100) 7 pgX7_answer = true := pkX7_answer
  show MW (kTx KX7_answer 9 2100) (XQ 2 h) 1 6 (pcA pgX7_answer 0) [(0, (2, ((833 : Nat) : Int))), (1, (0, 0)), (2, (0, a)), (3, (0, b)), (4, (0, c))] [] h
  refine hd_iload pk rfl rfl ?_
  refine hd_sw (lo := 0) (t := 2) pk rfl rfl rfl (by decide) ?_
  refine hd_aload pk rfl rfl (Int.natCast_nonneg _) ?_
  refine hd_iload pk rfl rfl ?_
  refine hd_callXt pk rfl rfl (q := (KX7_begin, yX7_begin, 7, 1, 0)) rfl rfl (F := 7) (Lo := 110) rfl (As := [(0, a)]) (rest := []) (c := 833) rfl rfl (Nat.le_of_ble_eq_true rfl) (g.cell 0 rfl).1 (g.cell 0 rfl).2.1 (Nat.le_refl _) (Nat.le_refl _) (tx_X7_begin2 hc J) (fun r h2 q2 => ?_)
  exact ⟨by rw [q2.1], q2⟩
set_option maxRecDepth 20000 in
set_option maxHeartbeats 8000000 in
theorem tx_X7_answer1a {h : MH} {a b c : Int} (hc : a < 0 ∨ ga h 833 0 ≤ a) (J : JJ zJ h) : MCalX (kTx KX7_answer 9 2100) yX7_answer 1 6 [(2, ((833 : Nat) : Int)), (0, 1), (0, a), (0, b), (0, c)] h (XQ 1 h) := by
  refine MCalX.ofMW rfl ⟨cp_X7, rfl⟩ (Nat.le_of_ble_eq_true rfl) ?_
  have g : Str [(833, 23, 0)] [(833, 3, 842), (833, 4, 843)] h := str_of (by decide +kernel) J.1
  have pk : okP (kTx KX7_answer 9 2100) 7 pgX7_answer = true := pkX7_answer
  show MW (kTx KX7_answer 9 2100) (XQ 1 h) 1 6 (pcA pgX7_answer 0) [(0, (2, ((833 : Nat) : Int))), (1, (0, 1)), (2, (0, a)), (3, (0, b)), (4, (0, c))] [] h
  refine hd_iload pk rfl rfl ?_
  refine hd_sw (lo := 0) (t := 7) pk rfl rfl rfl (by decide) ?_
  refine hd_aload pk rfl rfl (Int.natCast_nonneg _) ?_
  refine hd_iload pk rfl rfl ?_
  refine hd_iload pk rfl rfl ?_
  refine hd_iload pk rfl rfl ?_
  refine hd_callXt pk rfl rfl (q := (KX7_setClash, yX7_setClash, 7, 3, 0)) rfl rfl (F := 8) (Lo := 2041) rfl (As := [(0, a), (0, b), (0, c)]) (rest := []) (c := 833) rfl rfl (Nat.le_of_ble_eq_true rfl) (g.cell 0 rfl).1 (g.cell 0 rfl).2.1 (Nat.le_refl _) (Nat.le_refl _) (tx_X7_setClasha hc J) (fun r h2 q2 => ?_)
  exact ⟨by rw [q2.1], q2⟩
set_option maxRecDepth 20000 in
set_option maxHeartbeats 8000000 in
theorem tx_X7_answer1b {h : MH} {a b c : Int} (hk : 0 ≤ a ∧ a < ga h 833 0) (hc : b < 0 ∨ ga h 833 0 ≤ b) (J : JJ zJ h) : MCalX (kTx KX7_answer 9 2100) yX7_answer 1 6 [(2, ((833 : Nat) : Int)), (0, 1), (0, a), (0, b), (0, c)] h (XQ 1 h) := by
  refine MCalX.ofMW rfl ⟨cp_X7, rfl⟩ (Nat.le_of_ble_eq_true rfl) ?_
  have g : Str [(833, 23, 0)] [(833, 3, 842), (833, 4, 843)] h := str_of (by decide +kernel) J.1
  have pk : okP (kTx KX7_answer 9 2100) 7 pgX7_answer = true := pkX7_answer
  show MW (kTx KX7_answer 9 2100) (XQ 1 h) 1 6 (pcA pgX7_answer 0) [(0, (2, ((833 : Nat) : Int))), (1, (0, 1)), (2, (0, a)), (3, (0, b)), (4, (0, c))] [] h
  refine hd_iload pk rfl rfl ?_
  refine hd_sw (lo := 0) (t := 7) pk rfl rfl rfl (by decide) ?_
  refine hd_aload pk rfl rfl (Int.natCast_nonneg _) ?_
  refine hd_iload pk rfl rfl ?_
  refine hd_iload pk rfl rfl ?_
  refine hd_iload pk rfl rfl ?_
  refine hd_callXt pk rfl rfl (q := (KX7_setClash, yX7_setClash, 7, 3, 0)) rfl rfl (F := 8) (Lo := 2041) rfl (As := [(0, a), (0, b), (0, c)]) (rest := []) (c := 833) rfl rfl (Nat.le_of_ble_eq_true rfl) (g.cell 0 rfl).1 (g.cell 0 rfl).2.1 (Nat.le_refl _) (Nat.le_refl _) (tx_X7_setClashb hk hc J) (fun r h2 q2 => ?_)
  exact ⟨by rw [q2.1], q2⟩
set_option maxRecDepth 20000 in
set_option maxHeartbeats 8000000 in
theorem tx_X7_answer2 {h : MH} {a b c : Int} (hc : a < 0 ∨ ga h 833 0 ≤ a) (J : JJ zJ h) : MCalX (kTx KX7_answer 9 2100) yX7_answer 1 6 [(2, ((833 : Nat) : Int)), (0, 2), (0, a), (0, b), (0, c)] h (XQ 1 h) := by
  refine MCalX.ofMW rfl ⟨cp_X7, rfl⟩ (Nat.le_of_ble_eq_true rfl) ?_
  have g : Str [(833, 23, 0)] [(833, 3, 842), (833, 4, 843)] h := str_of (by decide +kernel) J.1
  have pk : okP (kTx KX7_answer 9 2100) 7 pgX7_answer = true := pkX7_answer
  show MW (kTx KX7_answer 9 2100) (XQ 1 h) 1 6 (pcA pgX7_answer 0) [(0, (2, ((833 : Nat) : Int))), (1, (0, 2)), (2, (0, a)), (3, (0, b)), (4, (0, c))] [] h
  refine hd_iload pk rfl rfl ?_
  refine hd_sw (lo := 0) (t := 17) pk rfl rfl rfl (by decide) ?_
  refine hd_aload pk rfl rfl (Int.natCast_nonneg _) ?_
  refine hd_aload pk rfl rfl (Int.natCast_nonneg _) ?_
  refine hd_getR (n := 842) pk rfl (g.cell 0 rfl).1 (g.cell 0 rfl).2.1 (g.ref 0 rfl) ?_
  refine hd_iload pk rfl rfl ?_
  refine hd_iload pk rfl rfl ?_
  refine hd_ipush (z := 15) pk rfl ?_
  refine hd_callXt pk rfl rfl (q := (KX7_setTime, yX7_setTime, 7, 4, 0)) rfl rfl (F := 8) (Lo := 2041) rfl (As := [(2, ((842 : Nat) : Int)), (0, a), (0, b), (0, 15)]) (rest := []) (c := 833) rfl rfl (Nat.le_of_ble_eq_true rfl) (g.cell 0 rfl).1 (g.cell 0 rfl).2.1 (Nat.le_refl _) (Nat.le_refl _) (tx_X7_setTime hc J) (fun r h2 q2 => ?_)
  exact ⟨by rw [q2.1], q2⟩
set_option maxRecDepth 20000 in
set_option maxHeartbeats 8000000 in
theorem tx_X7_answer3 {h : MH} {a b c : Int} (hc : a < 0 ∨ ga h 833 0 ≤ a) (J : JJ zJ h) : MCalX (kTx KX7_answer 9 2100) yX7_answer 1 6 [(2, ((833 : Nat) : Int)), (0, 3), (0, a), (0, b), (0, c)] h (XQ 1 h) := by
  refine MCalX.ofMW rfl ⟨cp_X7, rfl⟩ (Nat.le_of_ble_eq_true rfl) ?_
  have g : Str [(833, 23, 0)] [(833, 3, 842), (833, 4, 843)] h := str_of (by decide +kernel) J.1
  have pk : okP (kTx KX7_answer 9 2100) 7 pgX7_answer = true := pkX7_answer
  show MW (kTx KX7_answer 9 2100) (XQ 1 h) 1 6 (pcA pgX7_answer 0) [(0, (2, ((833 : Nat) : Int))), (1, (0, 3)), (2, (0, a)), (3, (0, b)), (4, (0, c))] [] h
  refine hd_iload pk rfl rfl ?_
  refine hd_sw (lo := 0) (t := 29) pk rfl rfl rfl (by decide) ?_
  refine hd_aload pk rfl rfl (Int.natCast_nonneg _) ?_
  refine hd_aload pk rfl rfl (Int.natCast_nonneg _) ?_
  refine hd_getR (n := 843) pk rfl (g.cell 0 rfl).1 (g.cell 0 rfl).2.1 (g.ref 1 rfl) ?_
  refine hd_iload pk rfl rfl ?_
  refine hd_iload pk rfl rfl ?_
  refine hd_ipush (z := 31) pk rfl ?_
  refine hd_callXt pk rfl rfl (q := (KX7_setTime, yX7_setTime, 7, 4, 0)) rfl rfl (F := 8) (Lo := 2041) rfl (As := [(2, ((843 : Nat) : Int)), (0, a), (0, b), (0, 31)]) (rest := []) (c := 833) rfl rfl (Nat.le_of_ble_eq_true rfl) (g.cell 0 rfl).1 (g.cell 0 rfl).2.1 (Nat.le_refl _) (Nat.le_refl _) (tx_X7_setTime hc J) (fun r h2 q2 => ?_)
  exact ⟨by rw [q2.1], q2⟩
set_option maxRecDepth 20000 in
set_option maxHeartbeats 8000000 in
theorem tx_X3_answer22 {h : MH} {a b c d : Int} (hc : a < 0 ∨ ga h 1982 5 ≤ a) (J : JJ zJ h) : MCalX (kTx KX3_answer 9 2100) yX3_answer 1 6 [(2, ((1982 : Nat) : Int)), (0, 22), (0, a), (0, b), (0, c), (0, d)] h (XQ 1 h) := by
  refine MCalX.ofMW rfl ⟨cp_X3, rfl⟩ (Nat.le_of_ble_eq_true rfl) ?_
  have g : Str [(1982, 19, 0)] [] h := str_of (by decide +kernel) J.1
  have pk : okP (kTx KX3_answer 9 2100) 3 pgX3_answer = true := pkX3_answer
  show MW (kTx KX3_answer 9 2100) (XQ 1 h) 1 6 (pcA pgX3_answer 0) [(0, (2, ((1982 : Nat) : Int))), (1, (0, 22)), (2, (0, a)), (3, (0, b)), (4, (0, c)), (5, (0, d))] [] h
  refine hd_iload pk rfl rfl ?_
  refine hd_sw (lo := 0) (t := 187) pk rfl rfl rfl (by decide) ?_
  refine hd_aload pk rfl rfl (Int.natCast_nonneg _) ?_
  refine hd_iload pk rfl rfl ?_
  refine hd_callXt pk rfl rfl (q := (KX3_plainEntries, yX3_plainEntries, 3, 1, 0)) rfl rfl (F := 8) (Lo := 2041) rfl (As := [(0, a)]) (rest := []) (c := 1982) rfl rfl (Nat.le_of_ble_eq_true rfl) (g.cell 0 rfl).1 (g.cell 0 rfl).2.1 (Nat.le_refl _) (Nat.le_refl _) (tx_X3_plainEntries hc J) (fun r h2 q2 => ?_)
  exact ⟨by rw [q2.1], q2⟩
set_option maxRecDepth 20000 in
set_option maxHeartbeats 8000000 in
theorem tx_act_202 {h : MH} {a b c d e : Int} (hc : a < 0 ∨ ga h 161 0 ≤ a) (J : JJ zJ h) : MCalX (kTx KX11_act 10 2200) yX11_act 1 6 [(2, ((4 : Nat) : Int)), (0, 202), (0, a), (0, b), (0, c), (0, d), (0, e)] h (XQ 1 h) := by
  refine MCalX.ofMW rfl ⟨cp_X11, rfl⟩ (Nat.le_of_ble_eq_true rfl) ?_
  have g : Str [(4, 27, 0), (34, 20, 0), (161, 16, 0), (833, 23, 0), (1982, 19, 0)] [(4, 1, 34), (4, 2, 161), (4, 5, 833), (4, 7, 1982)] h := str_of (by decide +kernel) J.1
  have pk : okP (kTx KX11_act 10 2200) 11 pgX11_act = true := pkX11_act
  show MW (kTx KX11_act 10 2200) (XQ 1 h) 1 6 (pcA pgX11_act 0) [(0, (2, ((4 : Nat) : Int))), (1, (0, 202)), (2, (0, a)), (3, (0, b)), (4, (0, c)), (5, (0, d)), (6, (0, e))] [] h
  refine hd_iload pk rfl rfl ?_
  refine hd_if_ge pk rfl (fun c1 => ?_) (fun c1 => ?_)
  · skip
    refine hd_iload pk rfl rfl ?_
    refine hd_ipush (z := 100) pk rfl ?_
    refine hd_irem pk rfl (by decide) (by decide) ?_
    rw [show (Int.tmod 202 100 : Int) = 2 from rfl]
    refine hd_istore pk rfl rfl ?_
    change MW _ _ _ _ _ [(7, (0, 2)), (0, (2, ((4 : Nat) : Int))), (1, (0, 202)), (2, (0, a)), (3, (0, b)), (4, (0, c)), (5, (0, d)), (6, (0, e))] _ _
    refine hd_iload pk rfl rfl ?_
    refine hd_ipush (z := 100) pk rfl ?_
    refine hd_idiv pk rfl (by decide) (by decide) ?_
    rw [show (Int.tdiv 202 100 : Int) = 2 from rfl]
    refine hd_sw (lo := 0) (t := 31) pk rfl rfl rfl (by decide) ?_
    refine hd_aload pk rfl rfl (Int.natCast_nonneg _) ?_
    refine hd_getR (n := 161) pk rfl (g.cell 0 rfl).1 (g.cell 0 rfl).2.1 (g.ref 1 rfl) ?_
    refine hd_iload pk rfl rfl ?_
    refine hd_iload pk rfl rfl ?_
    refine hd_iload pk rfl rfl ?_
    refine hd_iload pk rfl rfl ?_
    refine hd_iload pk rfl rfl ?_
    refine hd_callXt pk rfl rfl (q := (KX0_answer, yX0_answer, 0, 5, 0)) rfl rfl (F := 9) (Lo := 2100) rfl (As := [(0, 2), (0, a), (0, b), (0, c), (0, d)]) (rest := []) (c := 161) rfl rfl (Nat.le_of_ble_eq_true rfl) (g.cell 2 rfl).1 (g.cell 2 rfl).2.1 (Nat.le_refl _) (Nat.le_refl _) (tx_X0_answer2 hc J) (fun r h2 q2 => ?_)
    exact ⟨by rw [q2.1], q2⟩
  · exfalso
    omega
set_option maxRecDepth 20000 in
set_option maxHeartbeats 8000000 in
theorem tx_act_203 {h : MH} {a b c d e : Int} (hc : a < 0 ∨ ga h 161 0 < a) (J : JJ zJ h) : MCalX (kTx KX11_act 10 2200) yX11_act 1 6 [(2, ((4 : Nat) : Int)), (0, 203), (0, a), (0, b), (0, c), (0, d), (0, e)] h (XQ 1 h) := by
  refine MCalX.ofMW rfl ⟨cp_X11, rfl⟩ (Nat.le_of_ble_eq_true rfl) ?_
  have g : Str [(4, 27, 0), (34, 20, 0), (161, 16, 0), (833, 23, 0), (1982, 19, 0)] [(4, 1, 34), (4, 2, 161), (4, 5, 833), (4, 7, 1982)] h := str_of (by decide +kernel) J.1
  have pk : okP (kTx KX11_act 10 2200) 11 pgX11_act = true := pkX11_act
  show MW (kTx KX11_act 10 2200) (XQ 1 h) 1 6 (pcA pgX11_act 0) [(0, (2, ((4 : Nat) : Int))), (1, (0, 203)), (2, (0, a)), (3, (0, b)), (4, (0, c)), (5, (0, d)), (6, (0, e))] [] h
  refine hd_iload pk rfl rfl ?_
  refine hd_if_ge pk rfl (fun c1 => ?_) (fun c1 => ?_)
  · skip
    refine hd_iload pk rfl rfl ?_
    refine hd_ipush (z := 100) pk rfl ?_
    refine hd_irem pk rfl (by decide) (by decide) ?_
    rw [show (Int.tmod 203 100 : Int) = 3 from rfl]
    refine hd_istore pk rfl rfl ?_
    change MW _ _ _ _ _ [(7, (0, 3)), (0, (2, ((4 : Nat) : Int))), (1, (0, 203)), (2, (0, a)), (3, (0, b)), (4, (0, c)), (5, (0, d)), (6, (0, e))] _ _
    refine hd_iload pk rfl rfl ?_
    refine hd_ipush (z := 100) pk rfl ?_
    refine hd_idiv pk rfl (by decide) (by decide) ?_
    rw [show (Int.tdiv 203 100 : Int) = 2 from rfl]
    refine hd_sw (lo := 0) (t := 31) pk rfl rfl rfl (by decide) ?_
    refine hd_aload pk rfl rfl (Int.natCast_nonneg _) ?_
    refine hd_getR (n := 161) pk rfl (g.cell 0 rfl).1 (g.cell 0 rfl).2.1 (g.ref 1 rfl) ?_
    refine hd_iload pk rfl rfl ?_
    refine hd_iload pk rfl rfl ?_
    refine hd_iload pk rfl rfl ?_
    refine hd_iload pk rfl rfl ?_
    refine hd_iload pk rfl rfl ?_
    refine hd_callXt pk rfl rfl (q := (KX0_answer, yX0_answer, 0, 5, 0)) rfl rfl (F := 9) (Lo := 2100) rfl (As := [(0, 3), (0, a), (0, b), (0, c), (0, d)]) (rest := []) (c := 161) rfl rfl (Nat.le_of_ble_eq_true rfl) (g.cell 2 rfl).1 (g.cell 2 rfl).2.1 (Nat.le_refl _) (Nat.le_refl _) (tx_X0_answer3 hc J) (fun r h2 q2 => ?_)
    exact ⟨by rw [q2.1], q2⟩
  · exfalso
    omega
set_option maxRecDepth 20000 in
set_option maxHeartbeats 8000000 in
theorem tx_act_204 {h : MH} {a b c d e : Int} (hc : a < 0 ∨ ga h 161 0 ≤ a) (J : JJ zJ h) : MCalX (kTx KX11_act 10 2200) yX11_act 1 6 [(2, ((4 : Nat) : Int)), (0, 204), (0, a), (0, b), (0, c), (0, d), (0, e)] h (XQ 1 h) := by
  refine MCalX.ofMW rfl ⟨cp_X11, rfl⟩ (Nat.le_of_ble_eq_true rfl) ?_
  have g : Str [(4, 27, 0), (34, 20, 0), (161, 16, 0), (833, 23, 0), (1982, 19, 0)] [(4, 1, 34), (4, 2, 161), (4, 5, 833), (4, 7, 1982)] h := str_of (by decide +kernel) J.1
  have pk : okP (kTx KX11_act 10 2200) 11 pgX11_act = true := pkX11_act
  show MW (kTx KX11_act 10 2200) (XQ 1 h) 1 6 (pcA pgX11_act 0) [(0, (2, ((4 : Nat) : Int))), (1, (0, 204)), (2, (0, a)), (3, (0, b)), (4, (0, c)), (5, (0, d)), (6, (0, e))] [] h
  refine hd_iload pk rfl rfl ?_
  refine hd_if_ge pk rfl (fun c1 => ?_) (fun c1 => ?_)
  · skip
    refine hd_iload pk rfl rfl ?_
    refine hd_ipush (z := 100) pk rfl ?_
    refine hd_irem pk rfl (by decide) (by decide) ?_
    rw [show (Int.tmod 204 100 : Int) = 4 from rfl]
    refine hd_istore pk rfl rfl ?_
    change MW _ _ _ _ _ [(7, (0, 4)), (0, (2, ((4 : Nat) : Int))), (1, (0, 204)), (2, (0, a)), (3, (0, b)), (4, (0, c)), (5, (0, d)), (6, (0, e))] _ _
    refine hd_iload pk rfl rfl ?_
    refine hd_ipush (z := 100) pk rfl ?_
    refine hd_idiv pk rfl (by decide) (by decide) ?_
    rw [show (Int.tdiv 204 100 : Int) = 2 from rfl]
    refine hd_sw (lo := 0) (t := 31) pk rfl rfl rfl (by decide) ?_
    refine hd_aload pk rfl rfl (Int.natCast_nonneg _) ?_
    refine hd_getR (n := 161) pk rfl (g.cell 0 rfl).1 (g.cell 0 rfl).2.1 (g.ref 1 rfl) ?_
    refine hd_iload pk rfl rfl ?_
    refine hd_iload pk rfl rfl ?_
    refine hd_iload pk rfl rfl ?_
    refine hd_iload pk rfl rfl ?_
    refine hd_iload pk rfl rfl ?_
    refine hd_callXt pk rfl rfl (q := (KX0_answer, yX0_answer, 0, 5, 0)) rfl rfl (F := 9) (Lo := 2100) rfl (As := [(0, 4), (0, a), (0, b), (0, c), (0, d)]) (rest := []) (c := 161) rfl rfl (Nat.le_of_ble_eq_true rfl) (g.cell 2 rfl).1 (g.cell 2 rfl).2.1 (Nat.le_refl _) (Nat.le_refl _) (tx_X0_answer4 hc J) (fun r h2 q2 => ?_)
    exact ⟨by rw [q2.1], q2⟩
  · exfalso
    omega
set_option maxRecDepth 20000 in
set_option maxHeartbeats 8000000 in
theorem tx_act_108 {h : MH} {a b c d e : Int} (hs : 0 ≤ ga h 35 0 + ga h 35 1 ∧ ga h 35 0 + ga h 35 1 ≤ 12) (hf : 0 ≤ ga h 35 2 ∧ ga h 35 2 ≤ 8) (hc : a < (ga h 35 0 + ga h 35 1) * ga h 35 2) (J : JJ zJ h) : MCalX (kTx KX11_act 10 2200) yX11_act 1 6 [(2, ((4 : Nat) : Int)), (0, 108), (0, a), (0, b), (0, c), (0, d), (0, e)] h (XQ 3 h) := by
  refine MCalX.ofMW rfl ⟨cp_X11, rfl⟩ (Nat.le_of_ble_eq_true rfl) ?_
  have g : Str [(4, 27, 0), (34, 20, 0), (161, 16, 0), (833, 23, 0), (1982, 19, 0)] [(4, 1, 34), (4, 2, 161), (4, 5, 833), (4, 7, 1982)] h := str_of (by decide +kernel) J.1
  have pk : okP (kTx KX11_act 10 2200) 11 pgX11_act = true := pkX11_act
  show MW (kTx KX11_act 10 2200) (XQ 3 h) 1 6 (pcA pgX11_act 0) [(0, (2, ((4 : Nat) : Int))), (1, (0, 108)), (2, (0, a)), (3, (0, b)), (4, (0, c)), (5, (0, d)), (6, (0, e))] [] h
  refine hd_iload pk rfl rfl ?_
  refine hd_if_ge pk rfl (fun c1 => ?_) (fun c1 => ?_)
  · skip
    refine hd_iload pk rfl rfl ?_
    refine hd_ipush (z := 100) pk rfl ?_
    refine hd_irem pk rfl (by decide) (by decide) ?_
    rw [show (Int.tmod 108 100 : Int) = 8 from rfl]
    refine hd_istore pk rfl rfl ?_
    change MW _ _ _ _ _ [(7, (0, 8)), (0, (2, ((4 : Nat) : Int))), (1, (0, 108)), (2, (0, a)), (3, (0, b)), (4, (0, c)), (5, (0, d)), (6, (0, e))] _ _
    refine hd_iload pk rfl rfl ?_
    refine hd_ipush (z := 100) pk rfl ?_
    refine hd_idiv pk rfl (by decide) (by decide) ?_
    rw [show (Int.tdiv 108 100 : Int) = 1 from rfl]
    refine hd_sw (lo := 0) (t := 22) pk rfl rfl rfl (by decide) ?_
    refine hd_aload pk rfl rfl (Int.natCast_nonneg _) ?_
    refine hd_getR (n := 34) pk rfl (g.cell 0 rfl).1 (g.cell 0 rfl).2.1 (g.ref 0 rfl) ?_
    refine hd_iload pk rfl rfl ?_
    refine hd_iload pk rfl rfl ?_
    refine hd_iload pk rfl rfl ?_
    refine hd_iload pk rfl rfl ?_
    refine hd_iload pk rfl rfl ?_
    refine hd_callXt pk rfl rfl (q := (KX4_answer, yX4_answer, 4, 5, 0)) rfl rfl (F := 9) (Lo := 2100) rfl (As := [(0, 8), (0, a), (0, b), (0, c), (0, d)]) (rest := []) (c := 34) rfl rfl (Nat.le_of_ble_eq_true rfl) (g.cell 1 rfl).1 (g.cell 1 rfl).2.1 (Nat.le_refl _) (Nat.le_refl _) (tx_X4_answer8 hs hf hc J) (fun r h2 q2 => ?_)
    exact ⟨by rw [q2.1], q2⟩
  · exfalso
    omega
set_option maxRecDepth 20000 in
set_option maxHeartbeats 8000000 in
theorem tx_act_500n {h : MH} {a b c d e : Int} (hc : a < 0) (J : JJ zJ h) : MCalX (kTx KX11_act 10 2200) yX11_act 1 6 [(2, ((4 : Nat) : Int)), (0, 500), (0, a), (0, b), (0, c), (0, d), (0, e)] h (XQ 4 h) := by
  refine MCalX.ofMW rfl ⟨cp_X11, rfl⟩ (Nat.le_of_ble_eq_true rfl) ?_
  have g : Str [(4, 27, 0), (34, 20, 0), (161, 16, 0), (833, 23, 0), (1982, 19, 0)] [(4, 1, 34), (4, 2, 161), (4, 5, 833), (4, 7, 1982)] h := str_of (by decide +kernel) J.1
  have pk : okP (kTx KX11_act 10 2200) 11 pgX11_act = true := pkX11_act
  show MW (kTx KX11_act 10 2200) (XQ 4 h) 1 6 (pcA pgX11_act 0) [(0, (2, ((4 : Nat) : Int))), (1, (0, 500)), (2, (0, a)), (3, (0, b)), (4, (0, c)), (5, (0, d)), (6, (0, e))] [] h
  refine hd_iload pk rfl rfl ?_
  refine hd_if_ge pk rfl (fun c1 => ?_) (fun c1 => ?_)
  · skip
    refine hd_iload pk rfl rfl ?_
    refine hd_ipush (z := 100) pk rfl ?_
    refine hd_irem pk rfl (by decide) (by decide) ?_
    rw [show (Int.tmod 500 100 : Int) = 0 from rfl]
    refine hd_istore pk rfl rfl ?_
    change MW _ _ _ _ _ [(7, (0, 0)), (0, (2, ((4 : Nat) : Int))), (1, (0, 500)), (2, (0, a)), (3, (0, b)), (4, (0, c)), (5, (0, d)), (6, (0, e))] _ _
    refine hd_iload pk rfl rfl ?_
    refine hd_ipush (z := 100) pk rfl ?_
    refine hd_idiv pk rfl (by decide) (by decide) ?_
    rw [show (Int.tdiv 500 100 : Int) = 5 from rfl]
    refine hd_sw (lo := 0) (t := 56) pk rfl rfl rfl (by decide) ?_
    refine hd_aload pk rfl rfl (Int.natCast_nonneg _) ?_
    refine hd_getR (n := 833) pk rfl (g.cell 0 rfl).1 (g.cell 0 rfl).2.1 (g.ref 2 rfl) ?_
    refine hd_iload pk rfl rfl ?_
    refine hd_iload pk rfl rfl ?_
    refine hd_iload pk rfl rfl ?_
    refine hd_iload pk rfl rfl ?_
    refine hd_callXt pk rfl rfl (q := (KX7_answer, yX7_answer, 7, 4, 0)) rfl rfl (F := 9) (Lo := 2100) rfl (As := [(0, 0), (0, a), (0, b), (0, c)]) (rest := []) (c := 833) rfl rfl (Nat.le_of_ble_eq_true rfl) (g.cell 3 rfl).1 (g.cell 3 rfl).2.1 (Nat.le_refl _) (Nat.le_refl _) (tx_X7_answer0n hc J) (fun r h2 q2 => ?_)
    exact ⟨by rw [q2.1], q2⟩
  · exfalso
    omega
set_option maxRecDepth 20000 in
set_option maxHeartbeats 8000000 in
theorem tx_act_500i {h : MH} {a b c d e : Int} (hc : 0 ≤ a ∧ (a < 1 ∨ 6 < a)) (J : JJ zJ h) : MCalX (kTx KX11_act 10 2200) yX11_act 1 6 [(2, ((4 : Nat) : Int)), (0, 500), (0, a), (0, b), (0, c), (0, d), (0, e)] h (XQ 2 h) := by
  refine MCalX.ofMW rfl ⟨cp_X11, rfl⟩ (Nat.le_of_ble_eq_true rfl) ?_
  have g : Str [(4, 27, 0), (34, 20, 0), (161, 16, 0), (833, 23, 0), (1982, 19, 0)] [(4, 1, 34), (4, 2, 161), (4, 5, 833), (4, 7, 1982)] h := str_of (by decide +kernel) J.1
  have pk : okP (kTx KX11_act 10 2200) 11 pgX11_act = true := pkX11_act
  show MW (kTx KX11_act 10 2200) (XQ 2 h) 1 6 (pcA pgX11_act 0) [(0, (2, ((4 : Nat) : Int))), (1, (0, 500)), (2, (0, a)), (3, (0, b)), (4, (0, c)), (5, (0, d)), (6, (0, e))] [] h
  refine hd_iload pk rfl rfl ?_
  refine hd_if_ge pk rfl (fun c1 => ?_) (fun c1 => ?_)
  · skip
    refine hd_iload pk rfl rfl ?_
    refine hd_ipush (z := 100) pk rfl ?_
    refine hd_irem pk rfl (by decide) (by decide) ?_
    rw [show (Int.tmod 500 100 : Int) = 0 from rfl]
    refine hd_istore pk rfl rfl ?_
    change MW _ _ _ _ _ [(7, (0, 0)), (0, (2, ((4 : Nat) : Int))), (1, (0, 500)), (2, (0, a)), (3, (0, b)), (4, (0, c)), (5, (0, d)), (6, (0, e))] _ _
    refine hd_iload pk rfl rfl ?_
    refine hd_ipush (z := 100) pk rfl ?_
    refine hd_idiv pk rfl (by decide) (by decide) ?_
    rw [show (Int.tdiv 500 100 : Int) = 5 from rfl]
    refine hd_sw (lo := 0) (t := 56) pk rfl rfl rfl (by decide) ?_
    refine hd_aload pk rfl rfl (Int.natCast_nonneg _) ?_
    refine hd_getR (n := 833) pk rfl (g.cell 0 rfl).1 (g.cell 0 rfl).2.1 (g.ref 2 rfl) ?_
    refine hd_iload pk rfl rfl ?_
    refine hd_iload pk rfl rfl ?_
    refine hd_iload pk rfl rfl ?_
    refine hd_iload pk rfl rfl ?_
    refine hd_callXt pk rfl rfl (q := (KX7_answer, yX7_answer, 7, 4, 0)) rfl rfl (F := 9) (Lo := 2100) rfl (As := [(0, 0), (0, a), (0, b), (0, c)]) (rest := []) (c := 833) rfl rfl (Nat.le_of_ble_eq_true rfl) (g.cell 3 rfl).1 (g.cell 3 rfl).2.1 (Nat.le_refl _) (Nat.le_refl _) (tx_X7_answer0i hc J) (fun r h2 q2 => ?_)
    exact ⟨by rw [q2.1], q2⟩
  · exfalso
    omega
set_option maxRecDepth 20000 in
set_option maxHeartbeats 8000000 in
theorem tx_act_501a {h : MH} {a b c d e : Int} (hc : a < 0 ∨ ga h 833 0 ≤ a) (J : JJ zJ h) : MCalX (kTx KX11_act 10 2200) yX11_act 1 6 [(2, ((4 : Nat) : Int)), (0, 501), (0, a), (0, b), (0, c), (0, d), (0, e)] h (XQ 1 h) := by
  refine MCalX.ofMW rfl ⟨cp_X11, rfl⟩ (Nat.le_of_ble_eq_true rfl) ?_
  have g : Str [(4, 27, 0), (34, 20, 0), (161, 16, 0), (833, 23, 0), (1982, 19, 0)] [(4, 1, 34), (4, 2, 161), (4, 5, 833), (4, 7, 1982)] h := str_of (by decide +kernel) J.1
  have pk : okP (kTx KX11_act 10 2200) 11 pgX11_act = true := pkX11_act
  show MW (kTx KX11_act 10 2200) (XQ 1 h) 1 6 (pcA pgX11_act 0) [(0, (2, ((4 : Nat) : Int))), (1, (0, 501)), (2, (0, a)), (3, (0, b)), (4, (0, c)), (5, (0, d)), (6, (0, e))] [] h
  refine hd_iload pk rfl rfl ?_
  refine hd_if_ge pk rfl (fun c1 => ?_) (fun c1 => ?_)
  · skip
    refine hd_iload pk rfl rfl ?_
    refine hd_ipush (z := 100) pk rfl ?_
    refine hd_irem pk rfl (by decide) (by decide) ?_
    rw [show (Int.tmod 501 100 : Int) = 1 from rfl]
    refine hd_istore pk rfl rfl ?_
    change MW _ _ _ _ _ [(7, (0, 1)), (0, (2, ((4 : Nat) : Int))), (1, (0, 501)), (2, (0, a)), (3, (0, b)), (4, (0, c)), (5, (0, d)), (6, (0, e))] _ _
    refine hd_iload pk rfl rfl ?_
    refine hd_ipush (z := 100) pk rfl ?_
    refine hd_idiv pk rfl (by decide) (by decide) ?_
    rw [show (Int.tdiv 501 100 : Int) = 5 from rfl]
    refine hd_sw (lo := 0) (t := 56) pk rfl rfl rfl (by decide) ?_
    refine hd_aload pk rfl rfl (Int.natCast_nonneg _) ?_
    refine hd_getR (n := 833) pk rfl (g.cell 0 rfl).1 (g.cell 0 rfl).2.1 (g.ref 2 rfl) ?_
    refine hd_iload pk rfl rfl ?_
    refine hd_iload pk rfl rfl ?_
    refine hd_iload pk rfl rfl ?_
    refine hd_iload pk rfl rfl ?_
    refine hd_callXt pk rfl rfl (q := (KX7_answer, yX7_answer, 7, 4, 0)) rfl rfl (F := 9) (Lo := 2100) rfl (As := [(0, 1), (0, a), (0, b), (0, c)]) (rest := []) (c := 833) rfl rfl (Nat.le_of_ble_eq_true rfl) (g.cell 3 rfl).1 (g.cell 3 rfl).2.1 (Nat.le_refl _) (Nat.le_refl _) (tx_X7_answer1a hc J) (fun r h2 q2 => ?_)
    exact ⟨by rw [q2.1], q2⟩
  · exfalso
    omega
set_option maxRecDepth 20000 in
set_option maxHeartbeats 8000000 in
theorem tx_act_501b {h : MH} {a b c d e : Int} (hk : 0 ≤ a ∧ a < ga h 833 0) (hc : b < 0 ∨ ga h 833 0 ≤ b) (J : JJ zJ h) : MCalX (kTx KX11_act 10 2200) yX11_act 1 6 [(2, ((4 : Nat) : Int)), (0, 501), (0, a), (0, b), (0, c), (0, d), (0, e)] h (XQ 1 h) := by
  refine MCalX.ofMW rfl ⟨cp_X11, rfl⟩ (Nat.le_of_ble_eq_true rfl) ?_
  have g : Str [(4, 27, 0), (34, 20, 0), (161, 16, 0), (833, 23, 0), (1982, 19, 0)] [(4, 1, 34), (4, 2, 161), (4, 5, 833), (4, 7, 1982)] h := str_of (by decide +kernel) J.1
  have pk : okP (kTx KX11_act 10 2200) 11 pgX11_act = true := pkX11_act
  show MW (kTx KX11_act 10 2200) (XQ 1 h) 1 6 (pcA pgX11_act 0) [(0, (2, ((4 : Nat) : Int))), (1, (0, 501)), (2, (0, a)), (3, (0, b)), (4, (0, c)), (5, (0, d)), (6, (0, e))] [] h
  refine hd_iload pk rfl rfl ?_
  refine hd_if_ge pk rfl (fun c1 => ?_) (fun c1 => ?_)
  · skip
    refine hd_iload pk rfl rfl ?_
    refine hd_ipush (z := 100) pk rfl ?_
    refine hd_irem pk rfl (by decide) (by decide) ?_
    rw [show (Int.tmod 501 100 : Int) = 1 from rfl]
    refine hd_istore pk rfl rfl ?_
    change MW _ _ _ _ _ [(7, (0, 1)), (0, (2, ((4 : Nat) : Int))), (1, (0, 501)), (2, (0, a)), (3, (0, b)), (4, (0, c)), (5, (0, d)), (6, (0, e))] _ _
    refine hd_iload pk rfl rfl ?_
    refine hd_ipush (z := 100) pk rfl ?_
    refine hd_idiv pk rfl (by decide) (by decide) ?_
    rw [show (Int.tdiv 501 100 : Int) = 5 from rfl]
    refine hd_sw (lo := 0) (t := 56) pk rfl rfl rfl (by decide) ?_
    refine hd_aload pk rfl rfl (Int.natCast_nonneg _) ?_
    refine hd_getR (n := 833) pk rfl (g.cell 0 rfl).1 (g.cell 0 rfl).2.1 (g.ref 2 rfl) ?_
    refine hd_iload pk rfl rfl ?_
    refine hd_iload pk rfl rfl ?_
    refine hd_iload pk rfl rfl ?_
    refine hd_iload pk rfl rfl ?_
    refine hd_callXt pk rfl rfl (q := (KX7_answer, yX7_answer, 7, 4, 0)) rfl rfl (F := 9) (Lo := 2100) rfl (As := [(0, 1), (0, a), (0, b), (0, c)]) (rest := []) (c := 833) rfl rfl (Nat.le_of_ble_eq_true rfl) (g.cell 3 rfl).1 (g.cell 3 rfl).2.1 (Nat.le_refl _) (Nat.le_refl _) (tx_X7_answer1b hk hc J) (fun r h2 q2 => ?_)
    exact ⟨by rw [q2.1], q2⟩
  · exfalso
    omega
set_option maxRecDepth 20000 in
set_option maxHeartbeats 8000000 in
theorem tx_act_502 {h : MH} {a b c d e : Int} (hc : a < 0 ∨ ga h 833 0 ≤ a) (J : JJ zJ h) : MCalX (kTx KX11_act 10 2200) yX11_act 1 6 [(2, ((4 : Nat) : Int)), (0, 502), (0, a), (0, b), (0, c), (0, d), (0, e)] h (XQ 1 h) := by
  refine MCalX.ofMW rfl ⟨cp_X11, rfl⟩ (Nat.le_of_ble_eq_true rfl) ?_
  have g : Str [(4, 27, 0), (34, 20, 0), (161, 16, 0), (833, 23, 0), (1982, 19, 0)] [(4, 1, 34), (4, 2, 161), (4, 5, 833), (4, 7, 1982)] h := str_of (by decide +kernel) J.1
  have pk : okP (kTx KX11_act 10 2200) 11 pgX11_act = true := pkX11_act
  show MW (kTx KX11_act 10 2200) (XQ 1 h) 1 6 (pcA pgX11_act 0) [(0, (2, ((4 : Nat) : Int))), (1, (0, 502)), (2, (0, a)), (3, (0, b)), (4, (0, c)), (5, (0, d)), (6, (0, e))] [] h
  refine hd_iload pk rfl rfl ?_
  refine hd_if_ge pk rfl (fun c1 => ?_) (fun c1 => ?_)
  · skip
    refine hd_iload pk rfl rfl ?_
    refine hd_ipush (z := 100) pk rfl ?_
    refine hd_irem pk rfl (by decide) (by decide) ?_
    rw [show (Int.tmod 502 100 : Int) = 2 from rfl]
    refine hd_istore pk rfl rfl ?_
    change MW _ _ _ _ _ [(7, (0, 2)), (0, (2, ((4 : Nat) : Int))), (1, (0, 502)), (2, (0, a)), (3, (0, b)), (4, (0, c)), (5, (0, d)), (6, (0, e))] _ _
    refine hd_iload pk rfl rfl ?_
    refine hd_ipush (z := 100) pk rfl ?_
    refine hd_idiv pk rfl (by decide) (by decide) ?_
    rw [show (Int.tdiv 502 100 : Int) = 5 from rfl]
    refine hd_sw (lo := 0) (t := 56) pk rfl rfl rfl (by decide) ?_
    refine hd_aload pk rfl rfl (Int.natCast_nonneg _) ?_
    refine hd_getR (n := 833) pk rfl (g.cell 0 rfl).1 (g.cell 0 rfl).2.1 (g.ref 2 rfl) ?_
    refine hd_iload pk rfl rfl ?_
    refine hd_iload pk rfl rfl ?_
    refine hd_iload pk rfl rfl ?_
    refine hd_iload pk rfl rfl ?_
    refine hd_callXt pk rfl rfl (q := (KX7_answer, yX7_answer, 7, 4, 0)) rfl rfl (F := 9) (Lo := 2100) rfl (As := [(0, 2), (0, a), (0, b), (0, c)]) (rest := []) (c := 833) rfl rfl (Nat.le_of_ble_eq_true rfl) (g.cell 3 rfl).1 (g.cell 3 rfl).2.1 (Nat.le_refl _) (Nat.le_refl _) (tx_X7_answer2 hc J) (fun r h2 q2 => ?_)
    exact ⟨by rw [q2.1], q2⟩
  · exfalso
    omega
set_option maxRecDepth 20000 in
set_option maxHeartbeats 8000000 in
theorem tx_act_503 {h : MH} {a b c d e : Int} (hc : a < 0 ∨ ga h 833 0 ≤ a) (J : JJ zJ h) : MCalX (kTx KX11_act 10 2200) yX11_act 1 6 [(2, ((4 : Nat) : Int)), (0, 503), (0, a), (0, b), (0, c), (0, d), (0, e)] h (XQ 1 h) := by
  refine MCalX.ofMW rfl ⟨cp_X11, rfl⟩ (Nat.le_of_ble_eq_true rfl) ?_
  have g : Str [(4, 27, 0), (34, 20, 0), (161, 16, 0), (833, 23, 0), (1982, 19, 0)] [(4, 1, 34), (4, 2, 161), (4, 5, 833), (4, 7, 1982)] h := str_of (by decide +kernel) J.1
  have pk : okP (kTx KX11_act 10 2200) 11 pgX11_act = true := pkX11_act
  show MW (kTx KX11_act 10 2200) (XQ 1 h) 1 6 (pcA pgX11_act 0) [(0, (2, ((4 : Nat) : Int))), (1, (0, 503)), (2, (0, a)), (3, (0, b)), (4, (0, c)), (5, (0, d)), (6, (0, e))] [] h
  refine hd_iload pk rfl rfl ?_
  refine hd_if_ge pk rfl (fun c1 => ?_) (fun c1 => ?_)
  · skip
    refine hd_iload pk rfl rfl ?_
    refine hd_ipush (z := 100) pk rfl ?_
    refine hd_irem pk rfl (by decide) (by decide) ?_
    rw [show (Int.tmod 503 100 : Int) = 3 from rfl]
    refine hd_istore pk rfl rfl ?_
    change MW _ _ _ _ _ [(7, (0, 3)), (0, (2, ((4 : Nat) : Int))), (1, (0, 503)), (2, (0, a)), (3, (0, b)), (4, (0, c)), (5, (0, d)), (6, (0, e))] _ _
    refine hd_iload pk rfl rfl ?_
    refine hd_ipush (z := 100) pk rfl ?_
    refine hd_idiv pk rfl (by decide) (by decide) ?_
    rw [show (Int.tdiv 503 100 : Int) = 5 from rfl]
    refine hd_sw (lo := 0) (t := 56) pk rfl rfl rfl (by decide) ?_
    refine hd_aload pk rfl rfl (Int.natCast_nonneg _) ?_
    refine hd_getR (n := 833) pk rfl (g.cell 0 rfl).1 (g.cell 0 rfl).2.1 (g.ref 2 rfl) ?_
    refine hd_iload pk rfl rfl ?_
    refine hd_iload pk rfl rfl ?_
    refine hd_iload pk rfl rfl ?_
    refine hd_iload pk rfl rfl ?_
    refine hd_callXt pk rfl rfl (q := (KX7_answer, yX7_answer, 7, 4, 0)) rfl rfl (F := 9) (Lo := 2100) rfl (As := [(0, 3), (0, a), (0, b), (0, c)]) (rest := []) (c := 833) rfl rfl (Nat.le_of_ble_eq_true rfl) (g.cell 3 rfl).1 (g.cell 3 rfl).2.1 (Nat.le_refl _) (Nat.le_refl _) (tx_X7_answer3 hc J) (fun r h2 q2 => ?_)
    exact ⟨by rw [q2.1], q2⟩
  · exfalso
    omega
set_option maxRecDepth 20000 in
set_option maxHeartbeats 8000000 in
theorem tx_act_722 {h : MH} {a b c d e : Int} (hc : a < 0 ∨ ga h 1982 5 ≤ a) (J : JJ zJ h) : MCalX (kTx KX11_act 10 2200) yX11_act 1 6 [(2, ((4 : Nat) : Int)), (0, 722), (0, a), (0, b), (0, c), (0, d), (0, e)] h (XQ 1 h) := by
  refine MCalX.ofMW rfl ⟨cp_X11, rfl⟩ (Nat.le_of_ble_eq_true rfl) ?_
  have g : Str [(4, 27, 0), (34, 20, 0), (161, 16, 0), (833, 23, 0), (1982, 19, 0)] [(4, 1, 34), (4, 2, 161), (4, 5, 833), (4, 7, 1982)] h := str_of (by decide +kernel) J.1
  have pk : okP (kTx KX11_act 10 2200) 11 pgX11_act = true := pkX11_act
  show MW (kTx KX11_act 10 2200) (XQ 1 h) 1 6 (pcA pgX11_act 0) [(0, (2, ((4 : Nat) : Int))), (1, (0, 722)), (2, (0, a)), (3, (0, b)), (4, (0, c)), (5, (0, d)), (6, (0, e))] [] h
  refine hd_iload pk rfl rfl ?_
  refine hd_if_ge pk rfl (fun c1 => ?_) (fun c1 => ?_)
  · skip
    refine hd_iload pk rfl rfl ?_
    refine hd_ipush (z := 100) pk rfl ?_
    refine hd_irem pk rfl (by decide) (by decide) ?_
    rw [show (Int.tmod 722 100 : Int) = 22 from rfl]
    refine hd_istore pk rfl rfl ?_
    change MW _ _ _ _ _ [(7, (0, 22)), (0, (2, ((4 : Nat) : Int))), (1, (0, 722)), (2, (0, a)), (3, (0, b)), (4, (0, c)), (5, (0, d)), (6, (0, e))] _ _
    refine hd_iload pk rfl rfl ?_
    refine hd_ipush (z := 100) pk rfl ?_
    refine hd_idiv pk rfl (by decide) (by decide) ?_
    rw [show (Int.tdiv 722 100 : Int) = 7 from rfl]
    refine hd_sw (lo := 0) (t := 73) pk rfl rfl rfl (by decide) ?_
    refine hd_aload pk rfl rfl (Int.natCast_nonneg _) ?_
    refine hd_getR (n := 1982) pk rfl (g.cell 0 rfl).1 (g.cell 0 rfl).2.1 (g.ref 3 rfl) ?_
    refine hd_iload pk rfl rfl ?_
    refine hd_iload pk rfl rfl ?_
    refine hd_iload pk rfl rfl ?_
    refine hd_iload pk rfl rfl ?_
    refine hd_iload pk rfl rfl ?_
    refine hd_callXt pk rfl rfl (q := (KX3_answer, yX3_answer, 3, 5, 0)) rfl rfl (F := 9) (Lo := 2100) rfl (As := [(0, 22), (0, a), (0, b), (0, c), (0, d)]) (rest := []) (c := 1982) rfl rfl (Nat.le_of_ble_eq_true rfl) (g.cell 4 rfl).1 (g.cell 4 rfl).2.1 (Nat.le_refl _) (Nat.le_refl _) (tx_X3_answer22 hc J) (fun r h2 q2 => ?_)
    exact ⟨by rw [q2.1], q2⟩
  · exfalso
    omega
