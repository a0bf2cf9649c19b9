set_option maxRecDepth 20000 in
set_option maxHeartbeats 8000000 in
theorem h_X15_isName {h : MH} {w : Int} (jj : J15 h) (hw : 0 ≤ w ∧ w ≤ ga h 2595 4) (hn : (w < ga h 2595 4 ∧ ga h 2598 w < ga h 2599 w) ∨ (w = ga h 2595 4 ∧ ga h 2598 w = ga h 2599 w)) (g : Str t15 r15 h) : MCal KX15_isName yX15_isName 0 0 [(2, ((2595 : Nat) : Int)), (0, w)] h (mRI fun v h' => ((0 ≤ v ∧ v ≤ 1) ∧ (v = 0 ∨ (ga h 2599 w - ga h 2598 w ≤ 8 ∧ w < ga h 2595 4))) ∧ h' = h) := by
  refine MCal.ofMW (Or.inl rfl) ⟨cp_X15, rfl⟩ (Nat.le_of_ble_eq_true rfl) ?_
  generalize eQ : (mRI fun v h' => ((0 ≤ v ∧ v ≤ 1) ∧ (v = 0 ∨ (ga h 2599 w - ga h 2598 w ≤ 8 ∧ w < ga h 2595 4))) ∧ h' = h : MO → MH → Prop) = Q
  change MW KX15_isName Q 0 0 (pcA pgX15_isName 0) [(0, (2, ((2595 : Nat) : Int))), (1, (0, w))] [] h
  refine hd_locI (i := 1) rfl (fun rw => ?_)
  have fz4 := jj.f_words
  have fz7 := jj.f_items
  have wd9 := jj.f_words
  have bb := jj.a_begins w (by omega) (by omega)
  have be := jj.a_ends w (by omega) (by omega)
  refine hd_aload pkX15_isName rfl rfl (Int.natCast_nonneg _) ?_
  refine hd_iload pkX15_isName rfl rfl ?_
  refine hd_callV pkX15_isName rfl (q := (KX15_sortOf, yX15_sortOf, 15, 1, 0)) rfl rfl rfl (As := [(0, w)]) (rest := []) (c := 2595) rfl rfl (Nat.le_of_ble_eq_true rfl) (g.cell 0 rfl).1 (g.cell 0 rfl).2.1 (h_X15_sortOf jj (by omega) (by omega) g) (hd_bI (fun w2 hc3 p1 => ?_))
  obtain ⟨p1, ehc3⟩ := p1
  replace ehc3 := ehc3.symm
  subst ehc3
  refine hd_ipush (z := 1) pkX15_isName rfl ?_
  refine hd_ic_ne pkX15_isName rfl (fun c4 => ?_) (fun c4 => ?_)
  · skip
    refine hd_ipush (z := 0) pkX15_isName rfl ?_
    refine hd_zret pkX15_isName rfl (by omega) ?_
    subst eQ
    refine ⟨rfl, rfl, ⟨(by show 0 ≤ (0 : Int) ∧ (0 : Int) ≤ 1; omega), ?_⟩, rfl⟩
    show (0 : Int) = 0 ∨ (ga h 2599 w - ga h 2598 w ≤ 8 ∧ w < ga h 2595 4)
    omega
  · skip
    refine hd_aload pkX15_isName rfl rfl (Int.natCast_nonneg _) ?_
    refine hd_iload pkX15_isName rfl rfl ?_
    refine hd_callV pkX15_isName rfl (q := (KX15_length, yX15_length, 15, 1, 0)) rfl rfl rfl (As := [(0, w)]) (rest := []) (c := 2595) rfl rfl (Nat.le_of_ble_eq_true rfl) (g.cell 0 rfl).1 (g.cell 0 rfl).2.1 (h_X15_length jj (by omega) g) (hd_bI (fun w6 hc7 p5 => ?_))
    obtain ⟨p5, ehc7⟩ := p5
    replace ehc7 := ehc7.symm
    subst ehc7
    refine hd_ipush (z := 8) pkX15_isName rfl ?_
    refine hd_ic_le pkX15_isName rfl (fun c8 => ?_) (fun c8 => ?_)
    · skip
      refine hd_ipush (z := 0) pkX15_isName rfl ?_
      refine hd_istore pkX15_isName rfl rfl ?_
      change MW _ _ _ _ _ [(2, (0, 0)), (0, (2, ((2595 : Nat) : Int))), (1, (0, w))] _ _
      have lp14 : ∀ (N14 : Nat) (i : Int), (0 ≤ i ∧ i ≤ ga h 2595 7) → ((ga h 2595 7 - i) : Int) < (N14 : Int) → MW KX15_isName Q 0 0 (pcA pgX15_isName 14) [(0, (2, ((2595 : Nat) : Int))), (1, (0, w)), (2, (0, i))] [] h := by
        intro N14
        induction N14 with
        | zero => intro i i0 hm14; exfalso; omega
        | succ N14 ih14 =>
          intro i i0 hm14
          refine hd_iload pkX15_isName rfl rfl ?_
          refine hd_aload pkX15_isName rfl rfl (Int.natCast_nonneg _) ?_
          refine hd_getI pkX15_isName rfl (g.cell 0 rfl).1 (g.cell 0 rfl).2.1 (fun v9 ev9 rv9 => ?_)
          replace ev9 : v9 = ga h 2595 7 := ev9
          have bv9 : 0 ≤ v9 ∧ v9 ≤ 8 := by rw [ev9]; exact jj.f_items
          refine hd_ic_ge pkX15_isName rfl (fun c10 => ?_) (fun c10 => ?_)
          · skip
            refine hd_ipush (z := 1) pkX15_isName rfl ?_
            refine hd_zret pkX15_isName rfl (by omega) ?_
            subst eQ
            refine ⟨rfl, rfl, ⟨(by show 0 ≤ (1 : Int) ∧ (1 : Int) ≤ 1; omega), ?_⟩, rfl⟩
            show (1 : Int) = 0 ∨ (ga h 2599 w - ga h 2598 w ≤ 8 ∧ w < ga h 2595 4)
            omega
          · skip
            refine hd_aload pkX15_isName rfl rfl (Int.natCast_nonneg _) ?_
            refine hd_aload pkX15_isName rfl rfl (Int.natCast_nonneg _) ?_
            refine hd_getR (n := 2600) pkX15_isName rfl (g.cell 0 rfl).1 (g.cell 0 rfl).2.1 (g.ref 4 rfl) ?_
            refine hd_iload pkX15_isName rfl rfl ?_
            refine hd_iald (n := 8) pkX15_isName rfl (g.cell 5 rfl) (by omega) (by omega) (fun v11 ev11 rv11 => ?_)
            obtain ⟨nmi, qv11n⟩ : ∃ x : Int, x = v11 := ⟨_, rfl⟩
            have enmi := qv11n.trans ev11
            subst qv11n
            have bn := jj.nm i (by omega) (by omega)
            rw [← enmi] at bn
            have bs := jj.ws _ bn.1 bn.2
            refine hd_callV pkX15_isName rfl (q := (KX15_length, yX15_length, 15, 1, 0)) rfl rfl rfl (As := [(0, nmi)]) (rest := []) (c := 2595) rfl rfl (Nat.le_of_ble_eq_true rfl) (g.cell 0 rfl).1 (g.cell 0 rfl).2.1 (h_X15_length jj (by omega) g) (hd_bI (fun ln1 hc13 pl1 => ?_))
            obtain ⟨pl1, ehc13⟩ := pl1
            replace ehc13 := ehc13.symm
            subst ehc13
            refine hd_aload pkX15_isName rfl rfl (Int.natCast_nonneg _) ?_
            refine hd_iload pkX15_isName rfl rfl ?_
            refine hd_callV pkX15_isName rfl (q := (KX15_length, yX15_length, 15, 1, 0)) rfl rfl rfl (As := [(0, w)]) (rest := [(0, ln1)]) (c := 2595) rfl rfl (Nat.le_of_ble_eq_true rfl) (g.cell 0 rfl).1 (g.cell 0 rfl).2.1 (h_X15_length jj (by omega) g) (hd_bI (fun ln2 hc15 pl2 => ?_))
            obtain ⟨pl2, ehc15⟩ := pl2
            replace ehc15 := ehc15.symm
            subst ehc15
            have cut31 : ∀ (s1 : Int), ((s1 = 1 ∧ ln1 = ln2) ∨ s1 = 0) → MW KX15_isName Q 0 0 (pcA pgX15_isName 31) [(0, (2, ((2595 : Nat) : Int))), (1, (0, w)), (2, (0, i))] [(0, s1)] h := by
              intro s1 s1v
              refine hd_istore pkX15_isName rfl rfl ?_
              change MW _ _ _ _ _ [(3, (0, s1)), (0, (2, ((2595 : Nat) : Int))), (1, (0, w)), (2, (0, i))] _ _
              refine hd_ipush (z := 0) pkX15_isName rfl ?_
              refine hd_istore pkX15_isName rfl rfl ?_
              change MW _ _ _ _ _ [(4, (0, 0)), (3, (0, s1)), (0, (2, ((2595 : Nat) : Int))), (1, (0, w)), (2, (0, i))] _ _
              have lp34 : ∀ (N34 : Nat) (sm k : Int), (0 ≤ k ∧ k ≤ ln2) → ((sm = 1 ∧ ln1 = ln2) ∨ sm = 0) → ((201 - k) : Int) < (N34 : Int) → MW KX15_isName Q 0 0 (pcA pgX15_isName 34) [(0, (2, ((2595 : Nat) : Int))), (1, (0, w)), (2, (0, i)), (3, (0, sm)), (4, (0, k))] [] h := by
                intro N34
                induction N34 with
                | zero => intro sm k k0 smv hm34; exfalso; omega
                | succ N34 ih34 =>
                  intro sm k k0 smv hm34
                  refine hd_iload pkX15_isName rfl rfl ?_
                  refine hd_aload pkX15_isName rfl rfl (Int.natCast_nonneg _) ?_
                  refine hd_iload pkX15_isName rfl rfl ?_
                  refine hd_callV pkX15_isName rfl (q := (KX15_length, yX15_length, 15, 1, 0)) rfl rfl rfl (As := [(0, w)]) (rest := [(0, k)]) (c := 2595) rfl rfl (Nat.le_of_ble_eq_true rfl) (g.cell 0 rfl).1 (g.cell 0 rfl).2.1 (h_X15_length jj (by omega) g) (hd_bI (fun w17 hc18 p16 => ?_))
                  obtain ⟨p16, ehc18⟩ := p16
                  replace ehc18 := ehc18.symm
                  subst ehc18
                  refine hd_ic_ge pkX15_isName rfl (fun c19 => ?_) (fun c19 => ?_)
                  · skip
                    refine hd_iload pkX15_isName rfl rfl ?_
                    refine hd_if_eq pkX15_isName rfl (fun c20 => ?_) (fun c20 => ?_)
                    · skip
                      refine hd_iinc (z := 1) pkX15_isName rfl rfl (by omega) rfl ?_
                      change MW _ _ _ _ _ [(2, (0, (i + 1))), (0, (2, ((2595 : Nat) : Int))), (1, (0, w)), (3, (0, sm)), (4, (0, k))] _ _
                      refine hd_goto pkX15_isName rfl ?_
                      refine m_sub [(0, (2, ((2595 : Nat) : Int))), (1, (0, w)), (2, (0, (i + 1)))] (List.forall_mem_cons.mpr ⟨rfl, List.forall_mem_cons.mpr ⟨rfl, List.forall_mem_cons.mpr ⟨rfl, fun _ h => absurd h List.not_mem_nil⟩⟩⟩) ?_
                      refine ih14  ((i + 1)) ?_ ?_
                      · omega
                      · omega
                    · skip
                      refine hd_ipush (z := 0) pkX15_isName rfl ?_
                      refine hd_zret pkX15_isName rfl (by omega) ?_
                      subst eQ
                      refine ⟨rfl, rfl, ⟨(by show 0 ≤ (0 : Int) ∧ (0 : Int) ≤ 1; omega), ?_⟩, rfl⟩
                      show (0 : Int) = 0 ∨ (ga h 2599 w - ga h 2598 w ≤ 8 ∧ w < ga h 2595 4)
                      omega
                  · skip
                    refine hd_iload pkX15_isName rfl rfl ?_
                    refine hd_if_eq pkX15_isName rfl (fun c21 => ?_) (fun c21 => ?_)
                    · skip
                      refine hd_iload pkX15_isName rfl rfl ?_
                      refine hd_if_eq pkX15_isName rfl (fun c22 => ?_) (fun c22 => ?_)
                      · skip
                        refine hd_iinc (z := 1) pkX15_isName rfl rfl (by omega) rfl ?_
                        change MW _ _ _ _ _ [(2, (0, (i + 1))), (0, (2, ((2595 : Nat) : Int))), (1, (0, w)), (3, (0, sm)), (4, (0, k))] _ _
                        refine hd_goto pkX15_isName rfl ?_
                        refine m_sub [(0, (2, ((2595 : Nat) : Int))), (1, (0, w)), (2, (0, (i + 1)))] (List.forall_mem_cons.mpr ⟨rfl, List.forall_mem_cons.mpr ⟨rfl, List.forall_mem_cons.mpr ⟨rfl, fun _ h => absurd h List.not_mem_nil⟩⟩⟩) ?_
                        refine ih14  ((i + 1)) ?_ ?_
                        · omega
                        · omega
                      · skip
                        refine hd_ipush (z := 0) pkX15_isName rfl ?_
                        refine hd_zret pkX15_isName rfl (by omega) ?_
                        subst eQ
                        refine ⟨rfl, rfl, ⟨(by show 0 ≤ (0 : Int) ∧ (0 : Int) ≤ 1; omega), ?_⟩, rfl⟩
                        show (0 : Int) = 0 ∨ (ga h 2599 w - ga h 2598 w ≤ 8 ∧ w < ga h 2595 4)
                        omega
                    · skip
                      refine hd_aload pkX15_isName rfl rfl (Int.natCast_nonneg _) ?_
                      refine hd_getR (n := 2596) pkX15_isName rfl (g.cell 0 rfl).1 (g.cell 0 rfl).2.1 (g.ref 0 rfl) ?_
                      refine hd_aload pkX15_isName rfl rfl (Int.natCast_nonneg _) ?_
                      refine hd_getR (n := 2598) pkX15_isName rfl (g.cell 0 rfl).1 (g.cell 0 rfl).2.1 (g.ref 2 rfl) ?_
                      refine hd_aload pkX15_isName rfl rfl (Int.natCast_nonneg _) ?_
                      refine hd_getR (n := 2600) pkX15_isName rfl (g.cell 0 rfl).1 (g.cell 0 rfl).2.1 (g.ref 4 rfl) ?_
                      refine hd_iload pkX15_isName rfl rfl ?_
                      refine hd_iald (n := 8) pkX15_isName rfl (g.cell 5 rfl) (by omega) (by omega) (fun v23 ev23 rv23 => ?_)
                      have qv23n : nmi = v23 := enmi.trans (ev23.trans rfl).symm
                      subst qv23n
                      refine hd_iald (n := 201) pkX15_isName rfl (g.cell 3 rfl) (by omega) (by omega) (fun v24 ev24 rv24 => ?_)
                      have bv24 : 0 ≤ v24 ∧ v24 ≤ 200 := by rw [ev24]; exact jj.a_begins _ (by omega) (by omega)
                      have qb := ev24
                      refine hd_iload pkX15_isName rfl rfl ?_
                      refine hd_iadd pkX15_isName rfl (by omega) ?_
                      refine hd_iald (n := 200) pkX15_isName rfl (g.cell 1 rfl) (by omega) (by omega) (fun v25 ev25 rv25 => ?_)
                      refine hd_aload pkX15_isName rfl rfl (Int.natCast_nonneg _) ?_
                      refine hd_getR (n := 2596) pkX15_isName rfl (g.cell 0 rfl).1 (g.cell 0 rfl).2.1 (g.ref 0 rfl) ?_
                      refine hd_aload pkX15_isName rfl rfl (Int.natCast_nonneg _) ?_
                      refine hd_getR (n := 2598) pkX15_isName rfl (g.cell 0 rfl).1 (g.cell 0 rfl).2.1 (g.ref 2 rfl) ?_
                      refine hd_iload pkX15_isName rfl rfl ?_
                      refine hd_iald (n := 201) pkX15_isName rfl (g.cell 3 rfl) (by omega) (by omega) (fun v26 ev26 rv26 => ?_)
                      have bv26 : 0 ≤ v26 ∧ v26 ≤ 200 := by rw [ev26]; exact jj.a_begins _ (by omega) (by omega)
                      have qc := ev26
                      refine hd_iload pkX15_isName rfl rfl ?_
                      refine hd_iadd pkX15_isName rfl (by omega) ?_
                      refine hd_iald (n := 200) pkX15_isName rfl (g.cell 1 rfl) (by omega) (by omega) (fun v27 ev27 rv27 => ?_)
                      have cut66 : ∀ (s2 : Int), (s2 = 1 ∨ s2 = 0) → MW KX15_isName Q 0 0 (pcA pgX15_isName 66) [(0, (2, ((2595 : Nat) : Int))), (1, (0, w)), (2, (0, i)), (4, (0, k))] [(0, s2)] h := by
                        intro s2 s2v
                        refine hd_istore pkX15_isName rfl rfl ?_
                        change MW _ _ _ _ _ [(3, (0, s2)), (0, (2, ((2595 : Nat) : Int))), (1, (0, w)), (2, (0, i)), (4, (0, k))] _ _
                        refine hd_iinc (z := 1) pkX15_isName rfl rfl (by omega) rfl ?_
                        change MW _ _ _ _ _ [(4, (0, (k + 1))), (3, (0, s2)), (0, (2, ((2595 : Nat) : Int))), (1, (0, w)), (2, (0, i))] _ _
                        refine hd_goto pkX15_isName rfl ?_
                        refine m_sub [(0, (2, ((2595 : Nat) : Int))), (1, (0, w)), (2, (0, i)), (3, (0, s2)), (4, (0, (k + 1)))] (List.forall_mem_cons.mpr ⟨rfl, List.forall_mem_cons.mpr ⟨rfl, List.forall_mem_cons.mpr ⟨rfl, List.forall_mem_cons.mpr ⟨rfl, List.forall_mem_cons.mpr ⟨rfl, fun _ h => absurd h List.not_mem_nil⟩⟩⟩⟩⟩) ?_
                        refine ih34  (s2) ((k + 1)) ?_ ?_ ?_
                        · omega
                        · omega
                        · omega
                      refine hd_ic_ne pkX15_isName rfl (fun c28 => ?_) (fun c28 => ?_)
                      · skip
                        refine hd_ipush (z := 0) pkX15_isName rfl ?_
                        refine m_sub [(0, (2, ((2595 : Nat) : Int))), (1, (0, w)), (2, (0, i)), (4, (0, k))] (List.forall_mem_cons.mpr ⟨rfl, List.forall_mem_cons.mpr ⟨rfl, List.forall_mem_cons.mpr ⟨rfl, List.forall_mem_cons.mpr ⟨rfl, fun _ h => absurd h List.not_mem_nil⟩⟩⟩⟩) ?_
                        refine cut66 (0) ?_
                        · omega
                      · skip
                        refine hd_ipush (z := 1) pkX15_isName rfl ?_
                        refine hd_goto pkX15_isName rfl ?_
                        refine m_sub [(0, (2, ((2595 : Nat) : Int))), (1, (0, w)), (2, (0, i)), (4, (0, k))] (List.forall_mem_cons.mpr ⟨rfl, List.forall_mem_cons.mpr ⟨rfl, List.forall_mem_cons.mpr ⟨rfl, List.forall_mem_cons.mpr ⟨rfl, fun _ h => absurd h List.not_mem_nil⟩⟩⟩⟩) ?_
                        refine cut66 (1) ?_
                        · omega
              refine m_sub [(0, (2, ((2595 : Nat) : Int))), (1, (0, w)), (2, (0, i)), (3, (0, s1)), (4, (0, 0))] (List.forall_mem_cons.mpr ⟨rfl, List.forall_mem_cons.mpr ⟨rfl, List.forall_mem_cons.mpr ⟨rfl, List.forall_mem_cons.mpr ⟨rfl, List.forall_mem_cons.mpr ⟨rfl, fun _ h => absurd h List.not_mem_nil⟩⟩⟩⟩⟩) ?_
              refine lp34 ((((201 - (0)) : Int)) + 1).toNat (s1) (0) ?_ ?_ ?_
              · omega
              · omega
              · omega
            refine hd_ic_ne pkX15_isName rfl (fun c29 => ?_) (fun c29 => ?_)
            · skip
              refine hd_ipush (z := 0) pkX15_isName rfl ?_
              refine cut31 (0) ?_
              · omega
            · skip
              refine hd_ipush (z := 1) pkX15_isName rfl ?_
              refine hd_goto pkX15_isName rfl ?_
              refine cut31 (1) ?_
              · omega
      refine m_sub [(0, (2, ((2595 : Nat) : Int))), (1, (0, w)), (2, (0, 0))] (List.forall_mem_cons.mpr ⟨rfl, List.forall_mem_cons.mpr ⟨rfl, List.forall_mem_cons.mpr ⟨rfl, fun _ h => absurd h List.not_mem_nil⟩⟩⟩) ?_
      refine lp14 ((((ga h 2595 7 - (0)) : Int)) + 1).toNat (0) ?_ ?_
      · omega
      · omega
    · skip
      refine hd_ipush (z := 0) pkX15_isName rfl ?_
      refine hd_zret pkX15_isName rfl (by omega) ?_
      subst eQ
      refine ⟨rfl, rfl, ⟨(by show 0 ≤ (0 : Int) ∧ (0 : Int) ≤ 1; omega), ?_⟩, rfl⟩
      show (0 : Int) = 0 ∨ (ga h 2599 w - ga h 2598 w ≤ 8 ∧ w < ga h 2595 4)
      omega
set_option maxRecDepth 20000 in
set_option maxHeartbeats 8000000 in
theorem h_X15_variable_2596 {h : MH} {w : Int} (jj : J15 h) (hw : 0 ≤ w ∧ w ≤ 200) (g : Str t15 r15 h) : MCal KX15_variable yX15_variable 0 0 [(2, ((2595 : Nat) : Int)), (2, ((2596 : Nat) : Int)), (0, w)] h (mRI fun v h' => ((v = -1 ∧ (ga h 2599 w ≠ ga h 2598 w + 1 ∨ (ga h 2596 (ga h 2598 w) ≠ 107 ∧ ga h 2596 (ga h 2598 w) ≠ 97 ∧ ga h 2596 (ga h 2598 w) ≠ 98 ∧ ga h 2596 (ga h 2598 w) ≠ 99))) ∨ (0 ≤ v ∧ v ≤ 3 ∧ ga h 2599 w = ga h 2598 w + 1 ∧ (ga h 2596 (ga h 2598 w) = 107 ∨ ga h 2596 (ga h 2598 w) = 97 ∨ ga h 2596 (ga h 2598 w) = 98 ∨ ga h 2596 (ga h 2598 w) = 99))) ∧ h' = h) := by
  refine MCal.ofMW (Or.inl rfl) ⟨cp_X15, rfl⟩ (Nat.le_of_ble_eq_true rfl) ?_
  generalize eQ : (mRI fun v h' => ((v = -1 ∧ (ga h 2599 w ≠ ga h 2598 w + 1 ∨ (ga h 2596 (ga h 2598 w) ≠ 107 ∧ ga h 2596 (ga h 2598 w) ≠ 97 ∧ ga h 2596 (ga h 2598 w) ≠ 98 ∧ ga h 2596 (ga h 2598 w) ≠ 99))) ∨ (0 ≤ v ∧ v ≤ 3 ∧ ga h 2599 w = ga h 2598 w + 1 ∧ (ga h 2596 (ga h 2598 w) = 107 ∨ ga h 2596 (ga h 2598 w) = 97 ∨ ga h 2596 (ga h 2598 w) = 98 ∨ ga h 2596 (ga h 2598 w) = 99))) ∧ h' = h : MO → MH → Prop) = Q
  change MW KX15_variable Q 0 0 (pcA pgX15_variable 0) [(0, (2, ((2595 : Nat) : Int))), (1, (2, ((2596 : Nat) : Int))), (2, (0, w))] [] h
  refine hd_locI (i := 2) rfl (fun rw => ?_)
  refine hd_aload pkX15_variable rfl rfl (Int.natCast_nonneg _) ?_
  refine hd_aload pkX15_variable rfl rfl (Int.natCast_nonneg _) ?_
  refine hd_iload pkX15_variable rfl rfl ?_
  refine hd_ipush (z := 107) pkX15_variable rfl ?_
  refine hd_callV pkX15_variable rfl (q := (KX15_is, yX15_is, 15, 3, 0)) rfl rfl rfl (As := [(2, ((2596 : Nat) : Int)), (0, w), (0, 107)]) (rest := []) (c := 2595) rfl rfl (Nat.le_of_ble_eq_true rfl) (g.cell 0 rfl).1 (g.cell 0 rfl).2.1 (h_X15_is_2596 jj (by omega) g) (hd_bI (fun w2 hc3 p1 => ?_))
  obtain ⟨p1, ehc3⟩ := p1
  replace ehc3 := ehc3.symm
  subst ehc3
  refine hd_if_eq pkX15_variable rfl (fun c4 => ?_) (fun c4 => ?_)
  · skip
    refine hd_aload pkX15_variable rfl rfl (Int.natCast_nonneg _) ?_
    refine hd_aload pkX15_variable rfl rfl (Int.natCast_nonneg _) ?_
    refine hd_iload pkX15_variable rfl rfl ?_
    refine hd_ipush (z := 97) pkX15_variable rfl ?_
    refine hd_callV pkX15_variable rfl (q := (KX15_is, yX15_is, 15, 3, 0)) rfl rfl rfl (As := [(2, ((2596 : Nat) : Int)), (0, w), (0, 97)]) (rest := []) (c := 2595) rfl rfl (Nat.le_of_ble_eq_true rfl) (g.cell 0 rfl).1 (g.cell 0 rfl).2.1 (h_X15_is_2596 jj (by omega) g) (hd_bI (fun w6 hc7 p5 => ?_))
    obtain ⟨p5, ehc7⟩ := p5
    replace ehc7 := ehc7.symm
    subst ehc7
    refine hd_if_eq pkX15_variable rfl (fun c8 => ?_) (fun c8 => ?_)
    · skip
      refine hd_aload pkX15_variable rfl rfl (Int.natCast_nonneg _) ?_
      refine hd_aload pkX15_variable rfl rfl (Int.natCast_nonneg _) ?_
      refine hd_iload pkX15_variable rfl rfl ?_
      refine hd_ipush (z := 98) pkX15_variable rfl ?_
      refine hd_callV pkX15_variable rfl (q := (KX15_is, yX15_is, 15, 3, 0)) rfl rfl rfl (As := [(2, ((2596 : Nat) : Int)), (0, w), (0, 98)]) (rest := []) (c := 2595) rfl rfl (Nat.le_of_ble_eq_true rfl) (g.cell 0 rfl).1 (g.cell 0 rfl).2.1 (h_X15_is_2596 jj (by omega) g) (hd_bI (fun w10 hc11 p9 => ?_))
      obtain ⟨p9, ehc11⟩ := p9
      replace ehc11 := ehc11.symm
      subst ehc11
      refine hd_if_eq pkX15_variable rfl (fun c12 => ?_) (fun c12 => ?_)
      · skip
        refine hd_aload pkX15_variable rfl rfl (Int.natCast_nonneg _) ?_
        refine hd_aload pkX15_variable rfl rfl (Int.natCast_nonneg _) ?_
        refine hd_iload pkX15_variable rfl rfl ?_
        refine hd_ipush (z := 99) pkX15_variable rfl ?_
        refine hd_callV pkX15_variable rfl (q := (KX15_is, yX15_is, 15, 3, 0)) rfl rfl rfl (As := [(2, ((2596 : Nat) : Int)), (0, w), (0, 99)]) (rest := []) (c := 2595) rfl rfl (Nat.le_of_ble_eq_true rfl) (g.cell 0 rfl).1 (g.cell 0 rfl).2.1 (h_X15_is_2596 jj (by omega) g) (hd_bI (fun w14 hc15 p13 => ?_))
        obtain ⟨p13, ehc15⟩ := p13
        replace ehc15 := ehc15.symm
        subst ehc15
        refine hd_if_eq pkX15_variable rfl (fun c16 => ?_) (fun c16 => ?_)
        · skip
          refine hd_ipush (z := (-1)) pkX15_variable rfl ?_
          refine hd_iret pkX15_variable rfl ?_
          subst eQ
          refine ⟨rfl, rfl, ?_, rfl⟩
          show (((-1)) = -1 ∧ (ga h 2599 w ≠ ga h 2598 w + 1 ∨ (ga h 2596 (ga h 2598 w) ≠ 107 ∧ ga h 2596 (ga h 2598 w) ≠ 97 ∧ ga h 2596 (ga h 2598 w) ≠ 98 ∧ ga h 2596 (ga h 2598 w) ≠ 99))) ∨ (0 ≤ ((-1)) ∧ ((-1)) ≤ 3 ∧ ga h 2599 w = ga h 2598 w + 1 ∧ (ga h 2596 (ga h 2598 w) = 107 ∨ ga h 2596 (ga h 2598 w) = 97 ∨ ga h 2596 (ga h 2598 w) = 98 ∨ ga h 2596 (ga h 2598 w) = 99))
          omega
        · skip
          refine hd_ipush (z := 3) pkX15_variable rfl ?_
          refine hd_goto pkX15_variable rfl ?_
          refine hd_iret pkX15_variable rfl ?_
          subst eQ
          refine ⟨rfl, rfl, ?_, rfl⟩
          show ((3) = -1 ∧ (ga h 2599 w ≠ ga h 2598 w + 1 ∨ (ga h 2596 (ga h 2598 w) ≠ 107 ∧ ga h 2596 (ga h 2598 w) ≠ 97 ∧ ga h 2596 (ga h 2598 w) ≠ 98 ∧ ga h 2596 (ga h 2598 w) ≠ 99))) ∨ (0 ≤ (3) ∧ (3) ≤ 3 ∧ ga h 2599 w = ga h 2598 w + 1 ∧ (ga h 2596 (ga h 2598 w) = 107 ∨ ga h 2596 (ga h 2598 w) = 97 ∨ ga h 2596 (ga h 2598 w) = 98 ∨ ga h 2596 (ga h 2598 w) = 99))
          omega
      · skip
        refine hd_ipush (z := 2) pkX15_variable rfl ?_
        refine hd_goto pkX15_variable rfl ?_
        refine hd_iret pkX15_variable rfl ?_
        subst eQ
        refine ⟨rfl, rfl, ?_, rfl⟩
        show ((2) = -1 ∧ (ga h 2599 w ≠ ga h 2598 w + 1 ∨ (ga h 2596 (ga h 2598 w) ≠ 107 ∧ ga h 2596 (ga h 2598 w) ≠ 97 ∧ ga h 2596 (ga h 2598 w) ≠ 98 ∧ ga h 2596 (ga h 2598 w) ≠ 99))) ∨ (0 ≤ (2) ∧ (2) ≤ 3 ∧ ga h 2599 w = ga h 2598 w + 1 ∧ (ga h 2596 (ga h 2598 w) = 107 ∨ ga h 2596 (ga h 2598 w) = 97 ∨ ga h 2596 (ga h 2598 w) = 98 ∨ ga h 2596 (ga h 2598 w) = 99))
        omega
    · skip
      refine hd_ipush (z := 1) pkX15_variable rfl ?_
      refine hd_goto pkX15_variable rfl ?_
      refine hd_iret pkX15_variable rfl ?_
      subst eQ
      refine ⟨rfl, rfl, ?_, rfl⟩
      show ((1) = -1 ∧ (ga h 2599 w ≠ ga h 2598 w + 1 ∨ (ga h 2596 (ga h 2598 w) ≠ 107 ∧ ga h 2596 (ga h 2598 w) ≠ 97 ∧ ga h 2596 (ga h 2598 w) ≠ 98 ∧ ga h 2596 (ga h 2598 w) ≠ 99))) ∨ (0 ≤ (1) ∧ (1) ≤ 3 ∧ ga h 2599 w = ga h 2598 w + 1 ∧ (ga h 2596 (ga h 2598 w) = 107 ∨ ga h 2596 (ga h 2598 w) = 97 ∨ ga h 2596 (ga h 2598 w) = 98 ∨ ga h 2596 (ga h 2598 w) = 99))
      omega
  · skip
    refine hd_ipush (z := 0) pkX15_variable rfl ?_
    refine hd_goto pkX15_variable rfl ?_
    refine hd_iret pkX15_variable rfl ?_
    subst eQ
    refine ⟨rfl, rfl, ?_, rfl⟩
    show ((0) = -1 ∧ (ga h 2599 w ≠ ga h 2598 w + 1 ∨ (ga h 2596 (ga h 2598 w) ≠ 107 ∧ ga h 2596 (ga h 2598 w) ≠ 97 ∧ ga h 2596 (ga h 2598 w) ≠ 98 ∧ ga h 2596 (ga h 2598 w) ≠ 99))) ∨ (0 ≤ (0) ∧ (0) ≤ 3 ∧ ga h 2599 w = ga h 2598 w + 1 ∧ (ga h 2596 (ga h 2598 w) = 107 ∨ ga h 2596 (ga h 2598 w) = 97 ∨ ga h 2596 (ga h 2598 w) = 98 ∨ ga h 2596 (ga h 2598 w) = 99))
    omega
set_option maxRecDepth 20000 in
set_option maxHeartbeats 8000000 in
theorem h_X15_variable_2597 {h : MH} {w : Int} (jj : J15 h) (hw : 0 ≤ w ∧ w ≤ 200) (g : Str t15 r15 h) : MCal KX15_variable yX15_variable 0 0 [(2, ((2595 : Nat) : Int)), (2, ((2597 : Nat) : Int)), (0, w)] h (mRI fun v h' => ((v = -1 ∧ (ga h 2599 w ≠ ga h 2598 w + 1 ∨ (ga h 2597 (ga h 2598 w) ≠ 107 ∧ ga h 2597 (ga h 2598 w) ≠ 97 ∧ ga h 2597 (ga h 2598 w) ≠ 98 ∧ ga h 2597 (ga h 2598 w) ≠ 99))) ∨ (0 ≤ v ∧ v ≤ 3 ∧ ga h 2599 w = ga h 2598 w + 1 ∧ (ga h 2597 (ga h 2598 w) = 107 ∨ ga h 2597 (ga h 2598 w) = 97 ∨ ga h 2597 (ga h 2598 w) = 98 ∨ ga h 2597 (ga h 2598 w) = 99))) ∧ h' = h) := by
  refine MCal.ofMW (Or.inl rfl) ⟨cp_X15, rfl⟩ (Nat.le_of_ble_eq_true rfl) ?_
  generalize eQ : (mRI fun v h' => ((v = -1 ∧ (ga h 2599 w ≠ ga h 2598 w + 1 ∨ (ga h 2597 (ga h 2598 w) ≠ 107 ∧ ga h 2597 (ga h 2598 w) ≠ 97 ∧ ga h 2597 (ga h 2598 w) ≠ 98 ∧ ga h 2597 (ga h 2598 w) ≠ 99))) ∨ (0 ≤ v ∧ v ≤ 3 ∧ ga h 2599 w = ga h 2598 w + 1 ∧ (ga h 2597 (ga h 2598 w) = 107 ∨ ga h 2597 (ga h 2598 w) = 97 ∨ ga h 2597 (ga h 2598 w) = 98 ∨ ga h 2597 (ga h 2598 w) = 99))) ∧ h' = h : MO → MH → Prop) = Q
  change MW KX15_variable Q 0 0 (pcA pgX15_variable 0) [(0, (2, ((2595 : Nat) : Int))), (1, (2, ((2597 : Nat) : Int))), (2, (0, w))] [] h
  refine hd_locI (i := 2) rfl (fun rw => ?_)
  refine hd_aload pkX15_variable rfl rfl (Int.natCast_nonneg _) ?_
  refine hd_aload pkX15_variable rfl rfl (Int.natCast_nonneg _) ?_
  refine hd_iload pkX15_variable rfl rfl ?_
  refine hd_ipush (z := 107) pkX15_variable rfl ?_
  refine hd_callV pkX15_variable rfl (q := (KX15_is, yX15_is, 15, 3, 0)) rfl rfl rfl (As := [(2, ((2597 : Nat) : Int)), (0, w), (0, 107)]) (rest := []) (c := 2595) rfl rfl (Nat.le_of_ble_eq_true rfl) (g.cell 0 rfl).1 (g.cell 0 rfl).2.1 (h_X15_is_2597 jj (by omega) g) (hd_bI (fun w2 hc3 p1 => ?_))
  obtain ⟨p1, ehc3⟩ := p1
  replace ehc3 := ehc3.symm
  subst ehc3
  refine hd_if_eq pkX15_variable rfl (fun c4 => ?_) (fun c4 => ?_)
  · skip
    refine hd_aload pkX15_variable rfl rfl (Int.natCast_nonneg _) ?_
    refine hd_aload pkX15_variable rfl rfl (Int.natCast_nonneg _) ?_
    refine hd_iload pkX15_variable rfl rfl ?_
    refine hd_ipush (z := 97) pkX15_variable rfl ?_
    refine hd_callV pkX15_variable rfl (q := (KX15_is, yX15_is, 15, 3, 0)) rfl rfl rfl (As := [(2, ((2597 : Nat) : Int)), (0, w), (0, 97)]) (rest := []) (c := 2595) rfl rfl (Nat.le_of_ble_eq_true rfl) (g.cell 0 rfl).1 (g.cell 0 rfl).2.1 (h_X15_is_2597 jj (by omega) g) (hd_bI (fun w6 hc7 p5 => ?_))
    obtain ⟨p5, ehc7⟩ := p5
    replace ehc7 := ehc7.symm
    subst ehc7
    refine hd_if_eq pkX15_variable rfl (fun c8 => ?_) (fun c8 => ?_)
    · skip
      refine hd_aload pkX15_variable rfl rfl (Int.natCast_nonneg _) ?_
      refine hd_aload pkX15_variable rfl rfl (Int.natCast_nonneg _) ?_
      refine hd_iload pkX15_variable rfl rfl ?_
      refine hd_ipush (z := 98) pkX15_variable rfl ?_
      refine hd_callV pkX15_variable rfl (q := (KX15_is, yX15_is, 15, 3, 0)) rfl rfl rfl (As := [(2, ((2597 : Nat) : Int)), (0, w), (0, 98)]) (rest := []) (c := 2595) rfl rfl (Nat.le_of_ble_eq_true rfl) (g.cell 0 rfl).1 (g.cell 0 rfl).2.1 (h_X15_is_2597 jj (by omega) g) (hd_bI (fun w10 hc11 p9 => ?_))
      obtain ⟨p9, ehc11⟩ := p9
      replace ehc11 := ehc11.symm
      subst ehc11
      refine hd_if_eq pkX15_variable rfl (fun c12 => ?_) (fun c12 => ?_)
      · skip
        refine hd_aload pkX15_variable rfl rfl (Int.natCast_nonneg _) ?_
        refine hd_aload pkX15_variable rfl rfl (Int.natCast_nonneg _) ?_
        refine hd_iload pkX15_variable rfl rfl ?_
        refine hd_ipush (z := 99) pkX15_variable rfl ?_
        refine hd_callV pkX15_variable rfl (q := (KX15_is, yX15_is, 15, 3, 0)) rfl rfl rfl (As := [(2, ((2597 : Nat) : Int)), (0, w), (0, 99)]) (rest := []) (c := 2595) rfl rfl (Nat.le_of_ble_eq_true rfl) (g.cell 0 rfl).1 (g.cell 0 rfl).2.1 (h_X15_is_2597 jj (by omega) g) (hd_bI (fun w14 hc15 p13 => ?_))
        obtain ⟨p13, ehc15⟩ := p13
        replace ehc15 := ehc15.symm
        subst ehc15
        refine hd_if_eq pkX15_variable rfl (fun c16 => ?_) (fun c16 => ?_)
        · skip
          refine hd_ipush (z := (-1)) pkX15_variable rfl ?_
          refine hd_iret pkX15_variable rfl ?_
          subst eQ
          refine ⟨rfl, rfl, ?_, rfl⟩
          show (((-1)) = -1 ∧ (ga h 2599 w ≠ ga h 2598 w + 1 ∨ (ga h 2597 (ga h 2598 w) ≠ 107 ∧ ga h 2597 (ga h 2598 w) ≠ 97 ∧ ga h 2597 (ga h 2598 w) ≠ 98 ∧ ga h 2597 (ga h 2598 w) ≠ 99))) ∨ (0 ≤ ((-1)) ∧ ((-1)) ≤ 3 ∧ ga h 2599 w = ga h 2598 w + 1 ∧ (ga h 2597 (ga h 2598 w) = 107 ∨ ga h 2597 (ga h 2598 w) = 97 ∨ ga h 2597 (ga h 2598 w) = 98 ∨ ga h 2597 (ga h 2598 w) = 99))
          omega
        · skip
          refine hd_ipush (z := 3) pkX15_variable rfl ?_
          refine hd_goto pkX15_variable rfl ?_
          refine hd_iret pkX15_variable rfl ?_
          subst eQ
          refine ⟨rfl, rfl, ?_, rfl⟩
          show ((3) = -1 ∧ (ga h 2599 w ≠ ga h 2598 w + 1 ∨ (ga h 2597 (ga h 2598 w) ≠ 107 ∧ ga h 2597 (ga h 2598 w) ≠ 97 ∧ ga h 2597 (ga h 2598 w) ≠ 98 ∧ ga h 2597 (ga h 2598 w) ≠ 99))) ∨ (0 ≤ (3) ∧ (3) ≤ 3 ∧ ga h 2599 w = ga h 2598 w + 1 ∧ (ga h 2597 (ga h 2598 w) = 107 ∨ ga h 2597 (ga h 2598 w) = 97 ∨ ga h 2597 (ga h 2598 w) = 98 ∨ ga h 2597 (ga h 2598 w) = 99))
          omega
      · skip
        refine hd_ipush (z := 2) pkX15_variable rfl ?_
        refine hd_goto pkX15_variable rfl ?_
        refine hd_iret pkX15_variable rfl ?_
        subst eQ
        refine ⟨rfl, rfl, ?_, rfl⟩
        show ((2) = -1 ∧ (ga h 2599 w ≠ ga h 2598 w + 1 ∨ (ga h 2597 (ga h 2598 w) ≠ 107 ∧ ga h 2597 (ga h 2598 w) ≠ 97 ∧ ga h 2597 (ga h 2598 w) ≠ 98 ∧ ga h 2597 (ga h 2598 w) ≠ 99))) ∨ (0 ≤ (2) ∧ (2) ≤ 3 ∧ ga h 2599 w = ga h 2598 w + 1 ∧ (ga h 2597 (ga h 2598 w) = 107 ∨ ga h 2597 (ga h 2598 w) = 97 ∨ ga h 2597 (ga h 2598 w) = 98 ∨ ga h 2597 (ga h 2598 w) = 99))
        omega
    · skip
      refine hd_ipush (z := 1) pkX15_variable rfl ?_
      refine hd_goto pkX15_variable rfl ?_
      refine hd_iret pkX15_variable rfl ?_
      subst eQ
      refine ⟨rfl, rfl, ?_, rfl⟩
      show ((1) = -1 ∧ (ga h 2599 w ≠ ga h 2598 w + 1 ∨ (ga h 2597 (ga h 2598 w) ≠ 107 ∧ ga h 2597 (ga h 2598 w) ≠ 97 ∧ ga h 2597 (ga h 2598 w) ≠ 98 ∧ ga h 2597 (ga h 2598 w) ≠ 99))) ∨ (0 ≤ (1) ∧ (1) ≤ 3 ∧ ga h 2599 w = ga h 2598 w + 1 ∧ (ga h 2597 (ga h 2598 w) = 107 ∨ ga h 2597 (ga h 2598 w) = 97 ∨ ga h 2597 (ga h 2598 w) = 98 ∨ ga h 2597 (ga h 2598 w) = 99))
      omega
  · skip
    refine hd_ipush (z := 0) pkX15_variable rfl ?_
    refine hd_goto pkX15_variable rfl ?_
    refine hd_iret pkX15_variable rfl ?_
    subst eQ
    refine ⟨rfl, rfl, ?_, rfl⟩
    show ((0) = -1 ∧ (ga h 2599 w ≠ ga h 2598 w + 1 ∨ (ga h 2597 (ga h 2598 w) ≠ 107 ∧ ga h 2597 (ga h 2598 w) ≠ 97 ∧ ga h 2597 (ga h 2598 w) ≠ 98 ∧ ga h 2597 (ga h 2598 w) ≠ 99))) ∨ (0 ≤ (0) ∧ (0) ≤ 3 ∧ ga h 2599 w = ga h 2598 w + 1 ∧ (ga h 2597 (ga h 2598 w) = 107 ∨ ga h 2597 (ga h 2598 w) = 97 ∨ ga h 2597 (ga h 2598 w) = 98 ∨ ga h 2597 (ga h 2598 w) = 99))
    omega
set_option maxRecDepth 20000 in
set_option maxHeartbeats 8000000 in
theorem h_X15_isSign_2596 {h : MH} {w : Int} (jj : J15 h) (hw : 0 ≤ w ∧ w ≤ 200) (g : Str t15 r15 h) : MCal KX15_isSign yX15_isSign 0 0 [(2, ((2595 : Nat) : Int)), (2, ((2596 : Nat) : Int)), (0, w)] h (mRI fun v h' => ((0 ≤ v ∧ v ≤ 1) ∧ (v = 0 ∨ (ga h 2599 w = ga h 2598 w + 1 ∧ (ga h 2596 (ga h 2598 w) = 43 ∨ ga h 2596 (ga h 2598 w) = 45 ∨ ga h 2596 (ga h 2598 w) = 42 ∨ ga h 2596 (ga h 2598 w) = 47)))) ∧ h' = h) := by
  refine MCal.ofMW (Or.inl rfl) ⟨cp_X15, rfl⟩ (Nat.le_of_ble_eq_true rfl) ?_
  generalize eQ : (mRI fun v h' => ((0 ≤ v ∧ v ≤ 1) ∧ (v = 0 ∨ (ga h 2599 w = ga h 2598 w + 1 ∧ (ga h 2596 (ga h 2598 w) = 43 ∨ ga h 2596 (ga h 2598 w) = 45 ∨ ga h 2596 (ga h 2598 w) = 42 ∨ ga h 2596 (ga h 2598 w) = 47)))) ∧ h' = h : MO → MH → Prop) = Q
  change MW KX15_isSign Q 0 0 (pcA pgX15_isSign 0) [(0, (2, ((2595 : Nat) : Int))), (1, (2, ((2596 : Nat) : Int))), (2, (0, w))] [] h
  refine hd_locI (i := 2) rfl (fun rw => ?_)
  refine hd_aload pkX15_isSign rfl rfl (Int.natCast_nonneg _) ?_
  refine hd_aload pkX15_isSign rfl rfl (Int.natCast_nonneg _) ?_
  refine hd_iload pkX15_isSign rfl rfl ?_
  refine hd_ipush (z := 43) pkX15_isSign rfl ?_
  refine hd_callV pkX15_isSign rfl (q := (KX15_is, yX15_is, 15, 3, 0)) rfl rfl rfl (As := [(2, ((2596 : Nat) : Int)), (0, w), (0, 43)]) (rest := []) (c := 2595) rfl rfl (Nat.le_of_ble_eq_true rfl) (g.cell 0 rfl).1 (g.cell 0 rfl).2.1 (h_X15_is_2596 jj (by omega) g) (hd_bI (fun w2 hc3 p1 => ?_))
  obtain ⟨p1, ehc3⟩ := p1
  replace ehc3 := ehc3.symm
  subst ehc3
  refine hd_if_ne pkX15_isSign rfl (fun c4 => ?_) (fun c4 => ?_)
  · skip
    refine hd_ipush (z := 1) pkX15_isSign rfl ?_
    refine hd_goto pkX15_isSign rfl ?_
    refine hd_zret pkX15_isSign rfl (by omega) ?_
    subst eQ
    refine ⟨rfl, rfl, ⟨(by show 0 ≤ (1 : Int) ∧ (1 : Int) ≤ 1; omega), ?_⟩, rfl⟩
    show (1 : Int) = 0 ∨ (ga h 2599 w = ga h 2598 w + 1 ∧ (ga h 2596 (ga h 2598 w) = 43 ∨ ga h 2596 (ga h 2598 w) = 45 ∨ ga h 2596 (ga h 2598 w) = 42 ∨ ga h 2596 (ga h 2598 w) = 47))
    omega
  · skip
    refine hd_aload pkX15_isSign rfl rfl (Int.natCast_nonneg _) ?_
    refine hd_aload pkX15_isSign rfl rfl (Int.natCast_nonneg _) ?_
    refine hd_iload pkX15_isSign rfl rfl ?_
    refine hd_ipush (z := 45) pkX15_isSign rfl ?_
    refine hd_callV pkX15_isSign rfl (q := (KX15_is, yX15_is, 15, 3, 0)) rfl rfl rfl (As := [(2, ((2596 : Nat) : Int)), (0, w), (0, 45)]) (rest := []) (c := 2595) rfl rfl (Nat.le_of_ble_eq_true rfl) (g.cell 0 rfl).1 (g.cell 0 rfl).2.1 (h_X15_is_2596 jj (by omega) g) (hd_bI (fun w6 hc7 p5 => ?_))
    obtain ⟨p5, ehc7⟩ := p5
    replace ehc7 := ehc7.symm
    subst ehc7
    refine hd_if_ne pkX15_isSign rfl (fun c8 => ?_) (fun c8 => ?_)
    · skip
      refine hd_ipush (z := 1) pkX15_isSign rfl ?_
      refine hd_goto pkX15_isSign rfl ?_
      refine hd_zret pkX15_isSign rfl (by omega) ?_
      subst eQ
      refine ⟨rfl, rfl, ⟨(by show 0 ≤ (1 : Int) ∧ (1 : Int) ≤ 1; omega), ?_⟩, rfl⟩
      show (1 : Int) = 0 ∨ (ga h 2599 w = ga h 2598 w + 1 ∧ (ga h 2596 (ga h 2598 w) = 43 ∨ ga h 2596 (ga h 2598 w) = 45 ∨ ga h 2596 (ga h 2598 w) = 42 ∨ ga h 2596 (ga h 2598 w) = 47))
      omega
    · skip
      refine hd_aload pkX15_isSign rfl rfl (Int.natCast_nonneg _) ?_
      refine hd_aload pkX15_isSign rfl rfl (Int.natCast_nonneg _) ?_
      refine hd_iload pkX15_isSign rfl rfl ?_
      refine hd_ipush (z := 42) pkX15_isSign rfl ?_
      refine hd_callV pkX15_isSign rfl (q := (KX15_is, yX15_is, 15, 3, 0)) rfl rfl rfl (As := [(2, ((2596 : Nat) : Int)), (0, w), (0, 42)]) (rest := []) (c := 2595) rfl rfl (Nat.le_of_ble_eq_true rfl) (g.cell 0 rfl).1 (g.cell 0 rfl).2.1 (h_X15_is_2596 jj (by omega) g) (hd_bI (fun w10 hc11 p9 => ?_))
      obtain ⟨p9, ehc11⟩ := p9
      replace ehc11 := ehc11.symm
      subst ehc11
      refine hd_if_ne pkX15_isSign rfl (fun c12 => ?_) (fun c12 => ?_)
      · skip
        refine hd_ipush (z := 1) pkX15_isSign rfl ?_
        refine hd_goto pkX15_isSign rfl ?_
        refine hd_zret pkX15_isSign rfl (by omega) ?_
        subst eQ
        refine ⟨rfl, rfl, ⟨(by show 0 ≤ (1 : Int) ∧ (1 : Int) ≤ 1; omega), ?_⟩, rfl⟩
        show (1 : Int) = 0 ∨ (ga h 2599 w = ga h 2598 w + 1 ∧ (ga h 2596 (ga h 2598 w) = 43 ∨ ga h 2596 (ga h 2598 w) = 45 ∨ ga h 2596 (ga h 2598 w) = 42 ∨ ga h 2596 (ga h 2598 w) = 47))
        omega
      · skip
        refine hd_aload pkX15_isSign rfl rfl (Int.natCast_nonneg _) ?_
        refine hd_aload pkX15_isSign rfl rfl (Int.natCast_nonneg _) ?_
        refine hd_iload pkX15_isSign rfl rfl ?_
        refine hd_ipush (z := 47) pkX15_isSign rfl ?_
        refine hd_callV pkX15_isSign rfl (q := (KX15_is, yX15_is, 15, 3, 0)) rfl rfl rfl (As := [(2, ((2596 : Nat) : Int)), (0, w), (0, 47)]) (rest := []) (c := 2595) rfl rfl (Nat.le_of_ble_eq_true rfl) (g.cell 0 rfl).1 (g.cell 0 rfl).2.1 (h_X15_is_2596 jj (by omega) g) (hd_bI (fun w14 hc15 p13 => ?_))
        obtain ⟨p13, ehc15⟩ := p13
        replace ehc15 := ehc15.symm
        subst ehc15
        refine hd_if_eq pkX15_isSign rfl (fun c16 => ?_) (fun c16 => ?_)
        · skip
          refine hd_ipush (z := 0) pkX15_isSign rfl ?_
          refine hd_zret pkX15_isSign rfl (by omega) ?_
          subst eQ
          refine ⟨rfl, rfl, ⟨(by show 0 ≤ (0 : Int) ∧ (0 : Int) ≤ 1; omega), ?_⟩, rfl⟩
          show (0 : Int) = 0 ∨ (ga h 2599 w = ga h 2598 w + 1 ∧ (ga h 2596 (ga h 2598 w) = 43 ∨ ga h 2596 (ga h 2598 w) = 45 ∨ ga h 2596 (ga h 2598 w) = 42 ∨ ga h 2596 (ga h 2598 w) = 47))
          omega
        · skip
          refine hd_ipush (z := 1) pkX15_isSign rfl ?_
          refine hd_goto pkX15_isSign rfl ?_
          refine hd_zret pkX15_isSign rfl (by omega) ?_
          subst eQ
          refine ⟨rfl, rfl, ⟨(by show 0 ≤ (1 : Int) ∧ (1 : Int) ≤ 1; omega), ?_⟩, rfl⟩
          show (1 : Int) = 0 ∨ (ga h 2599 w = ga h 2598 w + 1 ∧ (ga h 2596 (ga h 2598 w) = 43 ∨ ga h 2596 (ga h 2598 w) = 45 ∨ ga h 2596 (ga h 2598 w) = 42 ∨ ga h 2596 (ga h 2598 w) = 47))
          omega
set_option maxRecDepth 20000 in
set_option maxHeartbeats 8000000 in
theorem h_X15_split {h : MH} (jj : J15 h) (hi : ga h 2595 7 ≤ 0) (g : Str t15 r15 h) : MCal KX15_split yX15_split 0 0 [(2, ((2595 : Nat) : Int))] h (mRV fun h' => (EW h' ∧ (∀ w : Int, 0 ≤ w → w < ga h' 2595 4 → ga h' 2598 w < ga h 2595 1)) ∧ Wd 2595 [2598, 2599] [4] h h' ∧ J15 h' ∧ Str t15 r15 h') := by
  refine MCal.ofMW (Or.inl rfl) ⟨cp_X15, rfl⟩ (Nat.le_of_ble_eq_true rfl) ?_
  generalize eQ : (mRV fun h' => (EW h' ∧ (∀ w : Int, 0 ≤ w → w < ga h' 2595 4 → ga h' 2598 w < ga h 2595 1)) ∧ Wd 2595 [2598, 2599] [4] h h' ∧ J15 h' ∧ Str t15 r15 h' : MO → MH → Prop) = Q
  change MW KX15_split Q 0 0 (pcA pgX15_split 0) [(0, (2, ((2595 : Nat) : Int)))] [] h
  have ww : Wd 2595 [2598, 2599] [4] h h := Wd.refl _ _ _ _
  have kf4 : ga h 2595 4 = ga h 2595 4 := rfl
  have fz1 := jj.f_letters
  have fz7 := jj.f_items
  have lt0 := jj.f_letters
  refine hd_aload pkX15_split rfl rfl (Int.natCast_nonneg _) ?_
  refine hd_ipush (z := 0) pkX15_split rfl ?_
  refine hd_putI pkX15_split rfl (g.cell 0 rfl).1 (g.cell 0 rfl).2.1 (fun hh1 ehh1 => ?_)
  have ghh1 : Str t15 r15 hh1 := by rw [ehh1]; exact g.setF rfl
  have jj := jj.wf_4 ehh1 (by unfold K15_f_words; omega) (by
        unfold K15_ws
        intro w w0 w1
        omega) (by
        have z7 := ww.fld (j := 7) (by decide) (by decide)
        unfold K15_nm
        intro i i0 i1
        omega) (by
        have z7 := ww.fld (j := 7) (by decide) (by decide)
        unfold K15_ft
        intro i i0 i1
        omega)
  have ww := ww.wF ehh1 (by decide) (by decide)
  have kf4 : ga hh1 2595 4 = 0 := (ga_wr ehh1 (by decide) (by decide)).trans (if_pos rfl)
  have lw : ∀ w : Int, 0 ≤ w → w < ga hh1 2595 4 → ga hh1 2598 w < ga h 2595 1 := fun w w0 w1 => by omega
  refine hd_ipush (z := 0) pkX15_split rfl ?_
  refine hd_istore pkX15_split rfl rfl ?_
  change MW _ _ _ _ _ [(1, (0, 0)), (0, (2, ((2595 : Nat) : Int)))] _ _
  have lp5 : ∀ (N5 : Nat) (k : Int) (hl5 : MH), Str t15 r15 hl5 → (Wd 2595 [2598, 2599] [4] h hl5) → (J15 hl5) → (0 ≤ k ∧ k ≤ ga h 2595 1) → (0 ≤ ga hl5 2595 4 ∧ ga hl5 2595 4 ≤ k) → (∀ w : Int, 0 ≤ w → w < ga hl5 2595 4 → ga hl5 2598 w < ga h 2595 1) → ((ga h 2595 1 - k) : Int) < (N5 : Int) → MW KX15_split Q 0 0 (pcA pgX15_split 5) [(0, (2, ((2595 : Nat) : Int))), (1, (0, k))] [] hl5 := by
    intro N5
    induction N5 with
    | zero => intro k hl5 g5 ww jj k0 wk lw hm5; exfalso; omega
    | succ N5 ih5 =>
      intro k hl5 g5 ww jj k0 wk lw hm5
      refine hd_iload pkX15_split rfl rfl ?_
      refine hd_aload pkX15_split rfl rfl (Int.natCast_nonneg _) ?_
      refine hd_getI pkX15_split rfl (g5.cell 0 rfl).1 (g5.cell 0 rfl).2.1 (fun v2 ev2 rv2 => ?_)
      replace ev2 : v2 = ga hl5 2595 1 := ev2
      have bv2 : 0 ≤ v2 ∧ v2 ≤ 200 := by rw [ev2]; exact jj.f_letters
      have qv2 : v2 = ga h 2595 1 := ev2.trans (ww.fld (by decide) (by decide))
      refine hd_ic_ge pkX15_split rfl (fun c3 => ?_) (fun c3 => ?_)
      · skip
        refine hd_aload pkX15_split rfl rfl (Int.natCast_nonneg _) ?_
        refine hd_getR (n := 2598) pkX15_split rfl (g5.cell 0 rfl).1 (g5.cell 0 rfl).2.1 (g5.ref 2 rfl) ?_
        refine hd_aload pkX15_split rfl rfl (Int.natCast_nonneg _) ?_
        refine hd_getI pkX15_split rfl (g5.cell 0 rfl).1 (g5.cell 0 rfl).2.1 (fun v4 ev4 rv4 => ?_)
        replace ev4 : v4 = ga hl5 2595 4 := ev4
        have bv4 : 0 ≤ v4 ∧ v4 ≤ 200 := by rw [ev4]; exact jj.f_words
        refine hd_aload pkX15_split rfl rfl (Int.natCast_nonneg _) ?_
        refine hd_getI pkX15_split rfl (g5.cell 0 rfl).1 (g5.cell 0 rfl).2.1 (fun v5 ev5 rv5 => ?_)
        replace ev5 : v5 = ga hl5 2595 1 := ev5
        have bv5 : 0 ≤ v5 ∧ v5 ≤ 200 := by rw [ev5]; exact jj.f_letters
        have qv5 : v5 = ga h 2595 1 := ev5.trans (ww.fld (by decide) (by decide))
        refine hd_iast (n := 201) pkX15_split rfl (g5.cell 3 rfl) (by decide) (by omega) (by omega) (fun hh6 ehh6 => ?_)
        have ghh6 : Str t15 r15 hh6 := by rw [ehh6]; exact g5.setA rfl
        have jj := jj.wa_2598 ehh6 (by omega) (by intro _; omega) (by
              unfold K15_ws
              intro w w0 w1
              rw [upw_no (by omega) w0 (by omega)]
              exact jj.ws w w0 (by omega)) (by
              have z7 := ww.fld (j := 7) (by decide) (by decide)
              unfold K15_nl
              intro i i0 i1
              omega)
        have ww := ww.wA ehh6 (by decide) (by decide)
        have kf4 : ga hh6 2595 4 = ga hl5 2595 4 := by rw [ga_upn ehh6 (by decide)]
        have b69 : ga hh6 2598 (ga hh6 2595 4) = ga h 2595 1 := by rw [show ga hh6 2595 4 = v4 by omega]; exact ((ga_wr ehh6 (by omega) (by omega)).trans (if_pos rfl)).trans (by omega)
        have lw : ∀ w : Int, 0 ≤ w → w < ga hh6 2595 4 → ga hh6 2598 w < ga h 2595 1 := fun w w0 w1 => by rw [ga_wr ehh6 (by omega) w0, if_neg (by omega)]; exact lw w w0 (by omega)
        refine hd_aload pkX15_split rfl rfl (Int.natCast_nonneg _) ?_
        refine hd_getR (n := 2599) pkX15_split rfl (ghh6.cell 0 rfl).1 (ghh6.cell 0 rfl).2.1 (ghh6.ref 3 rfl) ?_
        refine hd_aload pkX15_split rfl rfl (Int.natCast_nonneg _) ?_
        refine hd_getI pkX15_split rfl (ghh6.cell 0 rfl).1 (ghh6.cell 0 rfl).2.1 (fun v7 ev7 rv7 => ?_)
        replace ev7 : v7 = ga hh6 2595 4 := ev7
        have bv7 : 0 ≤ v7 ∧ v7 ≤ 200 := by rw [ev7]; exact jj.f_words
        refine hd_aload pkX15_split rfl rfl (Int.natCast_nonneg _) ?_
        refine hd_getI pkX15_split rfl (ghh6.cell 0 rfl).1 (ghh6.cell 0 rfl).2.1 (fun v8 ev8 rv8 => ?_)
        replace ev8 : v8 = ga hh6 2595 1 := ev8
        have bv8 : 0 ≤ v8 ∧ v8 ≤ 200 := by rw [ev8]; exact jj.f_letters
        have qv8 : v8 = ga h 2595 1 := ev8.trans (ww.fld (by decide) (by decide))
        refine hd_iast (n := 201) pkX15_split rfl (ghh6.cell 4 rfl) (by decide) (by omega) (by omega) (fun hh9 ehh9 => ?_)
        have ghh9 : Str t15 r15 hh9 := by rw [ehh9]; exact ghh6.setA rfl
        have jj := jj.wa_2599 ehh9 (by omega) (by intro _; omega) (by
              unfold K15_ws
              intro w w0 w1
              rw [upw_no (by omega) w0 (by omega)]
              exact jj.ws w w0 (by omega)) (by
              have z7 := ww.fld (j := 7) (by decide) (by decide)
              unfold K15_nl
              intro i i0 i1
              omega)
        have ww := ww.wA ehh9 (by decide) (by decide)
        have kf4 : ga hh9 2595 4 = ga hh6 2595 4 := by rw [ga_upn ehh9 (by decide)]
        have b76 : ga hh9 2599 (ga hh9 2595 4) = ga h 2595 1 := by rw [show ga hh9 2595 4 = v7 by omega]; exact ((ga_wr ehh9 (by omega) (by omega)).trans (if_pos rfl)).trans (by omega)
        have b69 : ga hh9 2598 (ga hh9 2595 4) = ga h 2595 1 := by rw [ga_upn ehh9 (by decide), kf4]; exact b69
        have lw : ∀ w : Int, 0 ≤ w → w < ga hh9 2595 4 → ga hh9 2598 w < ga h 2595 1 := fun w w0 w1 => by rw [ga_upn ehh9 (by decide)]; exact lw w w0 (by omega)
        refine hd_vret pkX15_split rfl ?_
        subst eQ
        refine ⟨rfl, ?_, ww, jj, ghh9⟩
        show EW hh9 ∧ (∀ w : Int, 0 ≤ w → w < ga hh9 2595 4 → ga hh9 2598 w < ga h 2595 1)
        refine ⟨?_, lw⟩
        unfold EW
        omega
      · skip
        refine hd_iload pkX15_split rfl rfl ?_
        refine hd_ipush (z := 1) pkX15_split rfl ?_
        refine hd_iadd pkX15_split rfl (by omega) ?_
        refine hd_istore pkX15_split rfl rfl ?_
        change MW _ _ _ _ _ [(2, (0, (k + 1))), (0, (2, ((2595 : Nat) : Int))), (1, (0, k))] _ _
        have lp13 : ∀ (N13 : Nat) (en : Int), (k < en ∧ en ≤ ga h 2595 1) → ((ga h 2595 1 - en) : Int) < (N13 : Int) → MW KX15_split Q 0 0 (pcA pgX15_split 13) [(0, (2, ((2595 : Nat) : Int))), (1, (0, k)), (2, (0, en))] [] hl5 := by
          intro N13
          induction N13 with
          | zero => intro en en0 hm13; exfalso; omega
          | succ N13 ih13 =>
            intro en en0 hm13
            refine hd_iload pkX15_split rfl rfl ?_
            refine hd_aload pkX15_split rfl rfl (Int.natCast_nonneg _) ?_
            refine hd_getI pkX15_split rfl (g5.cell 0 rfl).1 (g5.cell 0 rfl).2.1 (fun v10 ev10 rv10 => ?_)
            replace ev10 : v10 = ga hl5 2595 1 := ev10
            have bv10 : 0 ≤ v10 ∧ v10 ≤ 200 := by rw [ev10]; exact jj.f_letters
            have qv10 : v10 = ga h 2595 1 := ev10.trans (ww.fld (by decide) (by decide))
            refine hd_ic_ge pkX15_split rfl (fun c11 => ?_) (fun c11 => ?_)
            · skip
              refine hd_aload pkX15_split rfl rfl (Int.natCast_nonneg _) ?_
              refine hd_getR (n := 2596) pkX15_split rfl (g5.cell 0 rfl).1 (g5.cell 0 rfl).2.1 (g5.ref 0 rfl) ?_
              refine hd_iload pkX15_split rfl rfl ?_
              refine hd_iald (n := 200) pkX15_split rfl (g5.cell 1 rfl) (by omega) (by omega) (fun v12 ev12 rv12 => ?_)
              have qv12 : v12 = ga h 2596 k := ev12.trans (ww.arr (by decide) _)
              refine hd_ipush (z := 32) pkX15_split rfl ?_
              have cut60 : ∀ (_ : True) (hj60 : MH), Str t15 r15 hj60 → (Wd 2595 [2598, 2599] [4] h hj60) → (J15 hj60) → (0 ≤ ga hj60 2595 4 ∧ ga hj60 2595 4 ≤ k + 1) → (∀ w : Int, 0 ≤ w → w < ga hj60 2595 4 → ga hj60 2598 w < ga h 2595 1) → MW KX15_split Q 0 0 (pcA pgX15_split 60) [(0, (2, ((2595 : Nat) : Int))), (2, (0, en))] [] hj60 := by
                intro _ hj60 gc60 ww jj wk lw
                refine hd_iload pkX15_split rfl rfl ?_
                refine hd_istore pkX15_split rfl rfl ?_
                change MW _ _ _ _ _ [(1, (0, en)), (0, (2, ((2595 : Nat) : Int))), (2, (0, en))] _ _
                refine hd_goto pkX15_split rfl ?_
                refine m_sub [(0, (2, ((2595 : Nat) : Int))), (1, (0, en))] (List.forall_mem_cons.mpr ⟨rfl, List.forall_mem_cons.mpr ⟨rfl, fun _ h => absurd h List.not_mem_nil⟩⟩) ?_
                refine ih5  (en) hj60 gc60 ?_ ?_ ?_ ?_ ?_ ?_
                · exact ww
                · exact jj
                · omega
                · omega
                · exact lw
                · omega
              refine hd_ic_eq pkX15_split rfl (fun c13 => ?_) (fun c13 => ?_)
              · skip
                refine m_sub [(0, (2, ((2595 : Nat) : Int))), (2, (0, en))] (List.forall_mem_cons.mpr ⟨rfl, List.forall_mem_cons.mpr ⟨rfl, fun _ h => absurd h List.not_mem_nil⟩⟩) ?_
                refine cut60 trivial hl5 g5 ?_ ?_ ?_ ?_
                · exact ww
                · exact jj
                · omega
                · exact lw
              · skip
                refine hd_aload pkX15_split rfl rfl (Int.natCast_nonneg _) ?_
                refine hd_getR (n := 2598) pkX15_split rfl (g5.cell 0 rfl).1 (g5.cell 0 rfl).2.1 (g5.ref 2 rfl) ?_
                refine hd_aload pkX15_split rfl rfl (Int.natCast_nonneg _) ?_
                refine hd_getI pkX15_split rfl (g5.cell 0 rfl).1 (g5.cell 0 rfl).2.1 (fun v14 ev14 rv14 => ?_)
                replace ev14 : v14 = ga hl5 2595 4 := ev14
                have bv14 : 0 ≤ v14 ∧ v14 ≤ 200 := by rw [ev14]; exact jj.f_words
                refine hd_iload pkX15_split rfl rfl ?_
                refine hd_iast (n := 201) pkX15_split rfl (g5.cell 3 rfl) (by decide) (by omega) (by omega) (fun hh15 ehh15 => ?_)
                have ghh15 : Str t15 r15 hh15 := by rw [ehh15]; exact g5.setA rfl
                have jj := jj.wa_2598 ehh15 (by omega) (by intro _; omega) (by
                      unfold K15_ws
                      intro w w0 w1
                      rw [upw_no (by omega) w0 (by omega)]
                      exact jj.ws w w0 (by omega)) (by
                      have z7 := ww.fld (j := 7) (by decide) (by decide)
                      unfold K15_nl
                      intro i i0 i1
                      omega)
                have ww := ww.wA ehh15 (by decide) (by decide)
                have kf4 : ga hh15 2595 4 = ga hl5 2595 4 := by rw [ga_upn ehh15 (by decide)]
                have b47 : ga hh15 2598 (ga hh15 2595 4) = k := by rw [show ga hh15 2595 4 = v14 by omega]; exact ((ga_wr ehh15 (by omega) (by omega)).trans (if_pos rfl)).trans (by omega)
                have lw : ∀ w : Int, 0 ≤ w → w < ga hh15 2595 4 → ga hh15 2598 w < ga h 2595 1 := fun w w0 w1 => by rw [ga_wr ehh15 (by omega) w0, if_neg (by omega)]; exact lw w w0 (by omega)
                refine hd_aload pkX15_split rfl rfl (Int.natCast_nonneg _) ?_
                refine hd_getR (n := 2599) pkX15_split rfl (ghh15.cell 0 rfl).1 (ghh15.cell 0 rfl).2.1 (ghh15.ref 3 rfl) ?_
                refine hd_aload pkX15_split rfl rfl (Int.natCast_nonneg _) ?_
                refine hd_getI pkX15_split rfl (ghh15.cell 0 rfl).1 (ghh15.cell 0 rfl).2.1 (fun v16 ev16 rv16 => ?_)
                replace ev16 : v16 = ga hh15 2595 4 := ev16
                have bv16 : 0 ≤ v16 ∧ v16 ≤ 200 := by rw [ev16]; exact jj.f_words
                refine hd_iload pkX15_split rfl rfl ?_
                refine hd_iast (n := 201) pkX15_split rfl (ghh15.cell 4 rfl) (by decide) (by omega) (by omega) (fun hh17 ehh17 => ?_)
                have ghh17 : Str t15 r15 hh17 := by rw [ehh17]; exact ghh15.setA rfl
                have jj := jj.wa_2599 ehh17 (by omega) (by intro _; omega) (by
                      unfold K15_ws
                      intro w w0 w1
                      rw [upw_no (by omega) w0 (by omega)]
                      exact jj.ws w w0 (by omega)) (by
                      have z7 := ww.fld (j := 7) (by decide) (by decide)
                      unfold K15_nl
                      intro i i0 i1
                      omega)
                have ww := ww.wA ehh17 (by decide) (by decide)
                have kf4 : ga hh17 2595 4 = ga hh15 2595 4 := by rw [ga_upn ehh17 (by decide)]
                have b53 : ga hh17 2599 (ga hh17 2595 4) = en := by rw [show ga hh17 2595 4 = v16 by omega]; exact ((ga_wr ehh17 (by omega) (by omega)).trans (if_pos rfl)).trans (by omega)
                have b47 : ga hh17 2598 (ga hh17 2595 4) = k := by rw [ga_upn ehh17 (by decide), kf4]; exact b47
                have lw : ∀ w : Int, 0 ≤ w → w < ga hh17 2595 4 → ga hh17 2598 w < ga h 2595 1 := fun w w0 w1 => by rw [ga_upn ehh17 (by decide)]; exact lw w w0 (by omega)
                refine hd_aload pkX15_split rfl rfl (Int.natCast_nonneg _) ?_
                refine hd_dup pkX15_split rfl rfl ?_
                refine hd_getI pkX15_split rfl (ghh17.cell 0 rfl).1 (ghh17.cell 0 rfl).2.1 (fun v18 ev18 rv18 => ?_)
                replace ev18 : v18 = ga hh17 2595 4 := ev18
                have bv18 : 0 ≤ v18 ∧ v18 ≤ 200 := by rw [ev18]; exact jj.f_words
                refine hd_ipush (z := 1) pkX15_split rfl ?_
                refine hd_iadd pkX15_split rfl (by omega) ?_
                refine hd_putI pkX15_split rfl (ghh17.cell 0 rfl).1 (ghh17.cell 0 rfl).2.1 (fun hh19 ehh19 => ?_)
                have ghh19 : Str t15 r15 hh19 := by rw [ehh19]; exact ghh17.setF rfl
                have jj := jj.wf_4 ehh19 (by unfold K15_f_words; omega) (by
                      unfold K15_ws
                      intro w w0 w1
                      by_cases q : w = ga hh17 2595 4
                      · rw [q, b47, b53]
                        omega
                      · exact jj.ws w w0 (by omega)) (by
                      have z7 := ww.fld (j := 7) (by decide) (by decide)
                      unfold K15_nm
                      intro i i0 i1
                      omega) (by
                      have z7 := ww.fld (j := 7) (by decide) (by decide)
                      unfold K15_ft
                      intro i i0 i1
                      omega)
                have ww := ww.wF ehh19 (by decide) (by decide)
                have kf4 : ga hh19 2595 4 = (v18 + 1) := (ga_wr ehh19 (by decide) (by decide)).trans (if_pos rfl)
                have lw : ∀ w : Int, 0 ≤ w → w < ga hh19 2595 4 → ga hh19 2598 w < ga h 2595 1 := fun w w0 w1 => by
                  rw [ga_upn ehh19 (by decide)]
                  by_cases q : w = ga hh17 2595 4
                  · rw [q, b47]; omega
                  · exact lw w w0 (by omega)
                refine m_sub [(0, (2, ((2595 : Nat) : Int))), (2, (0, en))] (List.forall_mem_cons.mpr ⟨rfl, List.forall_mem_cons.mpr ⟨rfl, fun _ h => absurd h List.not_mem_nil⟩⟩) ?_
                refine cut60 trivial hh19 ghh19 ?_ ?_ ?_ ?_
                · exact ww
                · exact jj
                · omega
                · exact lw
            · skip
              refine hd_aload pkX15_split rfl rfl (Int.natCast_nonneg _) ?_
              refine hd_getR (n := 2596) pkX15_split rfl (g5.cell 0 rfl).1 (g5.cell 0 rfl).2.1 (g5.ref 0 rfl) ?_
              refine hd_iload pkX15_split rfl rfl ?_
              refine hd_iald (n := 200) pkX15_split rfl (g5.cell 1 rfl) (by omega) (by omega) (fun v20 ev20 rv20 => ?_)
              have qv20 : v20 = ga h 2596 k := ev20.trans (ww.arr (by decide) _)
              refine hd_callS pkX15_split rfl (q := (KX15_sort, yX15_sort, 15, 1, 1)) rfl rfl rfl (As := [(0, v20)]) (rest := []) rfl rfl (Nat.le_of_ble_eq_true rfl) rfl (h_X15_sort g5) (hd_bI (fun w22 hc23 p21 => ?_))
              obtain ⟨p21, ehc23⟩ := p21
              replace ehc23 := ehc23.symm
              subst ehc23
              refine hd_if_le pkX15_split rfl (fun c24 => ?_) (fun c24 => ?_)
              · skip
                refine hd_aload pkX15_split rfl rfl (Int.natCast_nonneg _) ?_
                refine hd_getR (n := 2596) pkX15_split rfl (g5.cell 0 rfl).1 (g5.cell 0 rfl).2.1 (g5.ref 0 rfl) ?_
                refine hd_iload pkX15_split rfl rfl ?_
                refine hd_iald (n := 200) pkX15_split rfl (g5.cell 1 rfl) (by omega) (by omega) (fun v25 ev25 rv25 => ?_)
                have qv25 : v25 = ga h 2596 k := ev25.trans (ww.arr (by decide) _)
                refine hd_ipush (z := 32) pkX15_split rfl ?_
                have cut60 : ∀ (_ : True) (hj60 : MH), Str t15 r15 hj60 → (Wd 2595 [2598, 2599] [4] h hj60) → (J15 hj60) → (0 ≤ ga hj60 2595 4 ∧ ga hj60 2595 4 ≤ k + 1) → (∀ w : Int, 0 ≤ w → w < ga hj60 2595 4 → ga hj60 2598 w < ga h 2595 1) → MW KX15_split Q 0 0 (pcA pgX15_split 60) [(0, (2, ((2595 : Nat) : Int))), (2, (0, en))] [] hj60 := by
                  intro _ hj60 gc60 ww jj wk lw
                  refine hd_iload pkX15_split rfl rfl ?_
                  refine hd_istore pkX15_split rfl rfl ?_
                  change MW _ _ _ _ _ [(1, (0, en)), (0, (2, ((2595 : Nat) : Int))), (2, (0, en))] _ _
                  refine hd_goto pkX15_split rfl ?_
                  refine m_sub [(0, (2, ((2595 : Nat) : Int))), (1, (0, en))] (List.forall_mem_cons.mpr ⟨rfl, List.forall_mem_cons.mpr ⟨rfl, fun _ h => absurd h List.not_mem_nil⟩⟩) ?_
                  refine ih5  (en) hj60 gc60 ?_ ?_ ?_ ?_ ?_ ?_
                  · exact ww
                  · exact jj
                  · omega
                  · omega
                  · exact lw
                  · omega
                refine hd_ic_eq pkX15_split rfl (fun c26 => ?_) (fun c26 => ?_)
                · skip
                  refine m_sub [(0, (2, ((2595 : Nat) : Int))), (2, (0, en))] (List.forall_mem_cons.mpr ⟨rfl, List.forall_mem_cons.mpr ⟨rfl, fun _ h => absurd h List.not_mem_nil⟩⟩) ?_
                  refine cut60 trivial hl5 g5 ?_ ?_ ?_ ?_
                  · exact ww
                  · exact jj
                  · omega
                  · exact lw
                · skip
                  refine hd_aload pkX15_split rfl rfl (Int.natCast_nonneg _) ?_
                  refine hd_getR (n := 2598) pkX15_split rfl (g5.cell 0 rfl).1 (g5.cell 0 rfl).2.1 (g5.ref 2 rfl) ?_
                  refine hd_aload pkX15_split rfl rfl (Int.natCast_nonneg _) ?_
                  refine hd_getI pkX15_split rfl (g5.cell 0 rfl).1 (g5.cell 0 rfl).2.1 (fun v27 ev27 rv27 => ?_)
                  replace ev27 : v27 = ga hl5 2595 4 := ev27
                  have bv27 : 0 ≤ v27 ∧ v27 ≤ 200 := by rw [ev27]; exact jj.f_words
                  refine hd_iload pkX15_split rfl rfl ?_
                  refine hd_iast (n := 201) pkX15_split rfl (g5.cell 3 rfl) (by decide) (by omega) (by omega) (fun hh28 ehh28 => ?_)
                  have ghh28 : Str t15 r15 hh28 := by rw [ehh28]; exact g5.setA rfl
                  have jj := jj.wa_2598 ehh28 (by omega) (by intro _; omega) (by
                        unfold K15_ws
                        intro w w0 w1
                        rw [upw_no (by omega) w0 (by omega)]
                        exact jj.ws w w0 (by omega)) (by
                        have z7 := ww.fld (j := 7) (by decide) (by decide)
                        unfold K15_nl
                        intro i i0 i1
                        omega)
                  have ww := ww.wA ehh28 (by decide) (by decide)
                  have kf4 : ga hh28 2595 4 = ga hl5 2595 4 := by rw [ga_upn ehh28 (by decide)]
                  have b47 : ga hh28 2598 (ga hh28 2595 4) = k := by rw [show ga hh28 2595 4 = v27 by omega]; exact ((ga_wr ehh28 (by omega) (by omega)).trans (if_pos rfl)).trans (by omega)
                  have lw : ∀ w : Int, 0 ≤ w → w < ga hh28 2595 4 → ga hh28 2598 w < ga h 2595 1 := fun w w0 w1 => by rw [ga_wr ehh28 (by omega) w0, if_neg (by omega)]; exact lw w w0 (by omega)
                  refine hd_aload pkX15_split rfl rfl (Int.natCast_nonneg _) ?_
                  refine hd_getR (n := 2599) pkX15_split rfl (ghh28.cell 0 rfl).1 (ghh28.cell 0 rfl).2.1 (ghh28.ref 3 rfl) ?_
                  refine hd_aload pkX15_split rfl rfl (Int.natCast_nonneg _) ?_
                  refine hd_getI pkX15_split rfl (ghh28.cell 0 rfl).1 (ghh28.cell 0 rfl).2.1 (fun v29 ev29 rv29 => ?_)
                  replace ev29 : v29 = ga hh28 2595 4 := ev29
                  have bv29 : 0 ≤ v29 ∧ v29 ≤ 200 := by rw [ev29]; exact jj.f_words
                  refine hd_iload pkX15_split rfl rfl ?_
                  refine hd_iast (n := 201) pkX15_split rfl (ghh28.cell 4 rfl) (by decide) (by omega) (by omega) (fun hh30 ehh30 => ?_)
                  have ghh30 : Str t15 r15 hh30 := by rw [ehh30]; exact ghh28.setA rfl
                  have jj := jj.wa_2599 ehh30 (by omega) (by intro _; omega) (by
                        unfold K15_ws
                        intro w w0 w1
                        rw [upw_no (by omega) w0 (by omega)]
                        exact jj.ws w w0 (by omega)) (by
                        have z7 := ww.fld (j := 7) (by decide) (by decide)
                        unfold K15_nl
                        intro i i0 i1
                        omega)
                  have ww := ww.wA ehh30 (by decide) (by decide)
                  have kf4 : ga hh30 2595 4 = ga hh28 2595 4 := by rw [ga_upn ehh30 (by decide)]
                  have b53 : ga hh30 2599 (ga hh30 2595 4) = en := by rw [show ga hh30 2595 4 = v29 by omega]; exact ((ga_wr ehh30 (by omega) (by omega)).trans (if_pos rfl)).trans (by omega)
                  have b47 : ga hh30 2598 (ga hh30 2595 4) = k := by rw [ga_upn ehh30 (by decide), kf4]; exact b47
                  have lw : ∀ w : Int, 0 ≤ w → w < ga hh30 2595 4 → ga hh30 2598 w < ga h 2595 1 := fun w w0 w1 => by rw [ga_upn ehh30 (by decide)]; exact lw w w0 (by omega)
                  refine hd_aload pkX15_split rfl rfl (Int.natCast_nonneg _) ?_
                  refine hd_dup pkX15_split rfl rfl ?_
                  refine hd_getI pkX15_split rfl (ghh30.cell 0 rfl).1 (ghh30.cell 0 rfl).2.1 (fun v31 ev31 rv31 => ?_)
                  replace ev31 : v31 = ga hh30 2595 4 := ev31
                  have bv31 : 0 ≤ v31 ∧ v31 ≤ 200 := by rw [ev31]; exact jj.f_words
                  refine hd_ipush (z := 1) pkX15_split rfl ?_
                  refine hd_iadd pkX15_split rfl (by omega) ?_
                  refine hd_putI pkX15_split rfl (ghh30.cell 0 rfl).1 (ghh30.cell 0 rfl).2.1 (fun hh32 ehh32 => ?_)
                  have ghh32 : Str t15 r15 hh32 := by rw [ehh32]; exact ghh30.setF rfl
                  have jj := jj.wf_4 ehh32 (by unfold K15_f_words; omega) (by
                        unfold K15_ws
                        intro w w0 w1
                        by_cases q : w = ga hh30 2595 4
                        · rw [q, b47, b53]
                          omega
                        · exact jj.ws w w0 (by omega)) (by
                        have z7 := ww.fld (j := 7) (by decide) (by decide)
                        unfold K15_nm
                        intro i i0 i1
                        omega) (by
                        have z7 := ww.fld (j := 7) (by decide) (by decide)
                        unfold K15_ft
                        intro i i0 i1
                        omega)
                  have ww := ww.wF ehh32 (by decide) (by decide)
                  have kf4 : ga hh32 2595 4 = (v31 + 1) := (ga_wr ehh32 (by decide) (by decide)).trans (if_pos rfl)
                  have lw : ∀ w : Int, 0 ≤ w → w < ga hh32 2595 4 → ga hh32 2598 w < ga h 2595 1 := fun w w0 w1 => by
                    rw [ga_upn ehh32 (by decide)]
                    by_cases q : w = ga hh30 2595 4
                    · rw [q, b47]; omega
                    · exact lw w w0 (by omega)
                  refine m_sub [(0, (2, ((2595 : Nat) : Int))), (2, (0, en))] (List.forall_mem_cons.mpr ⟨rfl, List.forall_mem_cons.mpr ⟨rfl, fun _ h => absurd h List.not_mem_nil⟩⟩) ?_
                  refine cut60 trivial hh32 ghh32 ?_ ?_ ?_ ?_
                  · exact ww
                  · exact jj
                  · omega
                  · exact lw
              · skip
                refine hd_aload pkX15_split rfl rfl (Int.natCast_nonneg _) ?_
                refine hd_getR (n := 2596) pkX15_split rfl (g5.cell 0 rfl).1 (g5.cell 0 rfl).2.1 (g5.ref 0 rfl) ?_
                refine hd_iload pkX15_split rfl rfl ?_
                refine hd_iald (n := 200) pkX15_split rfl (g5.cell 1 rfl) (by omega) (by omega) (fun v33 ev33 rv33 => ?_)
                have qv33 : v33 = ga h 2596 en := ev33.trans (ww.arr (by decide) _)
                refine hd_callS pkX15_split rfl (q := (KX15_sort, yX15_sort, 15, 1, 1)) rfl rfl rfl (As := [(0, v33)]) (rest := []) rfl rfl (Nat.le_of_ble_eq_true rfl) rfl (h_X15_sort g5) (hd_bI (fun w35 hc36 p34 => ?_))
                obtain ⟨p34, ehc36⟩ := p34
                replace ehc36 := ehc36.symm
                subst ehc36
                refine hd_aload pkX15_split rfl rfl (Int.natCast_nonneg _) ?_
                refine hd_getR (n := 2596) pkX15_split rfl (g5.cell 0 rfl).1 (g5.cell 0 rfl).2.1 (g5.ref 0 rfl) ?_
                refine hd_iload pkX15_split rfl rfl ?_
                refine hd_iald (n := 200) pkX15_split rfl (g5.cell 1 rfl) (by omega) (by omega) (fun v37 ev37 rv37 => ?_)
                have qv37 : v37 = ga h 2596 k := ev37.trans (ww.arr (by decide) _)
                refine hd_callS pkX15_split rfl (q := (KX15_sort, yX15_sort, 15, 1, 1)) rfl rfl rfl (As := [(0, v37)]) (rest := [(0, w35)]) rfl rfl (Nat.le_of_ble_eq_true rfl) rfl (h_X15_sort g5) (hd_bI (fun w39 hc40 p38 => ?_))
                obtain ⟨p38, ehc40⟩ := p38
                replace ehc40 := ehc40.symm
                subst ehc40
                refine hd_ic_ne pkX15_split rfl (fun c41 => ?_) (fun c41 => ?_)
                · skip
                  refine hd_aload pkX15_split rfl rfl (Int.natCast_nonneg _) ?_
                  refine hd_getR (n := 2596) pkX15_split rfl (g5.cell 0 rfl).1 (g5.cell 0 rfl).2.1 (g5.ref 0 rfl) ?_
                  refine hd_iload pkX15_split rfl rfl ?_
                  refine hd_iald (n := 200) pkX15_split rfl (g5.cell 1 rfl) (by omega) (by omega) (fun v42 ev42 rv42 => ?_)
                  have qv42 : v42 = ga h 2596 k := ev42.trans (ww.arr (by decide) _)
                  refine hd_ipush (z := 32) pkX15_split rfl ?_
                  have cut60 : ∀ (_ : True) (hj60 : MH), Str t15 r15 hj60 → (Wd 2595 [2598, 2599] [4] h hj60) → (J15 hj60) → (0 ≤ ga hj60 2595 4 ∧ ga hj60 2595 4 ≤ k + 1) → (∀ w : Int, 0 ≤ w → w < ga hj60 2595 4 → ga hj60 2598 w < ga h 2595 1) → MW KX15_split Q 0 0 (pcA pgX15_split 60) [(0, (2, ((2595 : Nat) : Int))), (2, (0, en))] [] hj60 := by
                    intro _ hj60 gc60 ww jj wk lw
                    refine hd_iload pkX15_split rfl rfl ?_
                    refine hd_istore pkX15_split rfl rfl ?_
                    change MW _ _ _ _ _ [(1, (0, en)), (0, (2, ((2595 : Nat) : Int))), (2, (0, en))] _ _
                    refine hd_goto pkX15_split rfl ?_
                    refine m_sub [(0, (2, ((2595 : Nat) : Int))), (1, (0, en))] (List.forall_mem_cons.mpr ⟨rfl, List.forall_mem_cons.mpr ⟨rfl, fun _ h => absurd h List.not_mem_nil⟩⟩) ?_
                    refine ih5  (en) hj60 gc60 ?_ ?_ ?_ ?_ ?_ ?_
                    · exact ww
                    · exact jj
                    · omega
                    · omega
                    · exact lw
                    · omega
                  refine hd_ic_eq pkX15_split rfl (fun c43 => ?_) (fun c43 => ?_)
                  · skip
                    refine m_sub [(0, (2, ((2595 : Nat) : Int))), (2, (0, en))] (List.forall_mem_cons.mpr ⟨rfl, List.forall_mem_cons.mpr ⟨rfl, fun _ h => absurd h List.not_mem_nil⟩⟩) ?_
                    refine cut60 trivial hl5 g5 ?_ ?_ ?_ ?_
                    · exact ww
                    · exact jj
                    · omega
                    · exact lw
                  · skip
                    refine hd_aload pkX15_split rfl rfl (Int.natCast_nonneg _) ?_
                    refine hd_getR (n := 2598) pkX15_split rfl (g5.cell 0 rfl).1 (g5.cell 0 rfl).2.1 (g5.ref 2 rfl) ?_
                    refine hd_aload pkX15_split rfl rfl (Int.natCast_nonneg _) ?_
                    refine hd_getI pkX15_split rfl (g5.cell 0 rfl).1 (g5.cell 0 rfl).2.1 (fun v44 ev44 rv44 => ?_)
                    replace ev44 : v44 = ga hl5 2595 4 := ev44
                    have bv44 : 0 ≤ v44 ∧ v44 ≤ 200 := by rw [ev44]; exact jj.f_words
                    refine hd_iload pkX15_split rfl rfl ?_
                    refine hd_iast (n := 201) pkX15_split rfl (g5.cell 3 rfl) (by decide) (by omega) (by omega) (fun hh45 ehh45 => ?_)
                    have ghh45 : Str t15 r15 hh45 := by rw [ehh45]; exact g5.setA rfl
                    have jj := jj.wa_2598 ehh45 (by omega) (by intro _; omega) (by
                          unfold K15_ws
                          intro w w0 w1
                          rw [upw_no (by omega) w0 (by omega)]
                          exact jj.ws w w0 (by omega)) (by
                          have z7 := ww.fld (j := 7) (by decide) (by decide)
                          unfold K15_nl
                          intro i i0 i1
                          omega)
                    have ww := ww.wA ehh45 (by decide) (by decide)
                    have kf4 : ga hh45 2595 4 = ga hl5 2595 4 := by rw [ga_upn ehh45 (by decide)]
                    have b47 : ga hh45 2598 (ga hh45 2595 4) = k := by rw [show ga hh45 2595 4 = v44 by omega]; exact ((ga_wr ehh45 (by omega) (by omega)).trans (if_pos rfl)).trans (by omega)
                    have lw : ∀ w : Int, 0 ≤ w → w < ga hh45 2595 4 → ga hh45 2598 w < ga h 2595 1 := fun w w0 w1 => by rw [ga_wr ehh45 (by omega) w0, if_neg (by omega)]; exact lw w w0 (by omega)
                    refine hd_aload pkX15_split rfl rfl (Int.natCast_nonneg _) ?_
                    refine hd_getR (n := 2599) pkX15_split rfl (ghh45.cell 0 rfl).1 (ghh45.cell 0 rfl).2.1 (ghh45.ref 3 rfl) ?_
                    refine hd_aload pkX15_split rfl rfl (Int.natCast_nonneg _) ?_
                    refine hd_getI pkX15_split rfl (ghh45.cell 0 rfl).1 (ghh45.cell 0 rfl).2.1 (fun v46 ev46 rv46 => ?_)
                    replace ev46 : v46 = ga hh45 2595 4 := ev46
                    have bv46 : 0 ≤ v46 ∧ v46 ≤ 200 := by rw [ev46]; exact jj.f_words
                    refine hd_iload pkX15_split rfl rfl ?_
                    refine hd_iast (n := 201) pkX15_split rfl (ghh45.cell 4 rfl) (by decide) (by omega) (by omega) (fun hh47 ehh47 => ?_)
                    have ghh47 : Str t15 r15 hh47 := by rw [ehh47]; exact ghh45.setA rfl
                    have jj := jj.wa_2599 ehh47 (by omega) (by intro _; omega) (by
                          unfold K15_ws
                          intro w w0 w1
                          rw [upw_no (by omega) w0 (by omega)]
                          exact jj.ws w w0 (by omega)) (by
                          have z7 := ww.fld (j := 7) (by decide) (by decide)
                          unfold K15_nl
                          intro i i0 i1
                          omega)
                    have ww := ww.wA ehh47 (by decide) (by decide)
                    have kf4 : ga hh47 2595 4 = ga hh45 2595 4 := by rw [ga_upn ehh47 (by decide)]
                    have b53 : ga hh47 2599 (ga hh47 2595 4) = en := by rw [show ga hh47 2595 4 = v46 by omega]; exact ((ga_wr ehh47 (by omega) (by omega)).trans (if_pos rfl)).trans (by omega)
                    have b47 : ga hh47 2598 (ga hh47 2595 4) = k := by rw [ga_upn ehh47 (by decide), kf4]; exact b47
                    have lw : ∀ w : Int, 0 ≤ w → w < ga hh47 2595 4 → ga hh47 2598 w < ga h 2595 1 := fun w w0 w1 => by rw [ga_upn ehh47 (by decide)]; exact lw w w0 (by omega)
                    refine hd_aload pkX15_split rfl rfl (Int.natCast_nonneg _) ?_
                    refine hd_dup pkX15_split rfl rfl ?_
                    refine hd_getI pkX15_split rfl (ghh47.cell 0 rfl).1 (ghh47.cell 0 rfl).2.1 (fun v48 ev48 rv48 => ?_)
                    replace ev48 : v48 = ga hh47 2595 4 := ev48
                    have bv48 : 0 ≤ v48 ∧ v48 ≤ 200 := by rw [ev48]; exact jj.f_words
                    refine hd_ipush (z := 1) pkX15_split rfl ?_
                    refine hd_iadd pkX15_split rfl (by omega) ?_
                    refine hd_putI pkX15_split rfl (ghh47.cell 0 rfl).1 (ghh47.cell 0 rfl).2.1 (fun hh49 ehh49 => ?_)
                    have ghh49 : Str t15 r15 hh49 := by rw [ehh49]; exact ghh47.setF rfl
                    have jj := jj.wf_4 ehh49 (by unfold K15_f_words; omega) (by
                          unfold K15_ws
                          intro w w0 w1
                          by_cases q : w = ga hh47 2595 4
                          · rw [q, b47, b53]
                            omega
                          · exact jj.ws w w0 (by omega)) (by
                          have z7 := ww.fld (j := 7) (by decide) (by decide)
                          unfold K15_nm
                          intro i i0 i1
                          omega) (by
                          have z7 := ww.fld (j := 7) (by decide) (by decide)
                          unfold K15_ft
                          intro i i0 i1
                          omega)
                    have ww := ww.wF ehh49 (by decide) (by decide)
                    have kf4 : ga hh49 2595 4 = (v48 + 1) := (ga_wr ehh49 (by decide) (by decide)).trans (if_pos rfl)
                    have lw : ∀ w : Int, 0 ≤ w → w < ga hh49 2595 4 → ga hh49 2598 w < ga h 2595 1 := fun w w0 w1 => by
                      rw [ga_upn ehh49 (by decide)]
                      by_cases q : w = ga hh47 2595 4
                      · rw [q, b47]; omega
                      · exact lw w w0 (by omega)
                    refine m_sub [(0, (2, ((2595 : Nat) : Int))), (2, (0, en))] (List.forall_mem_cons.mpr ⟨rfl, List.forall_mem_cons.mpr ⟨rfl, fun _ h => absurd h List.not_mem_nil⟩⟩) ?_
                    refine cut60 trivial hh49 ghh49 ?_ ?_ ?_ ?_
                    · exact ww
                    · exact jj
                    · omega
                    · exact lw
                · skip
                  refine hd_iinc (z := 1) pkX15_split rfl rfl (by omega) rfl ?_
                  change MW _ _ _ _ _ [(2, (0, (en + 1))), (0, (2, ((2595 : Nat) : Int))), (1, (0, k))] _ _
                  refine hd_goto pkX15_split rfl ?_
                  refine m_sub [(0, (2, ((2595 : Nat) : Int))), (1, (0, k)), (2, (0, (en + 1)))] (List.forall_mem_cons.mpr ⟨rfl, List.forall_mem_cons.mpr ⟨rfl, List.forall_mem_cons.mpr ⟨rfl, fun _ h => absurd h List.not_mem_nil⟩⟩⟩) ?_
                  refine ih13  ((en + 1)) ?_ ?_
                  · omega
                  · omega
        refine m_sub [(0, (2, ((2595 : Nat) : Int))), (1, (0, k)), (2, (0, (k + 1)))] (List.forall_mem_cons.mpr ⟨rfl, List.forall_mem_cons.mpr ⟨rfl, List.forall_mem_cons.mpr ⟨rfl, fun _ h => absurd h List.not_mem_nil⟩⟩⟩) ?_
        refine lp13 ((((ga h 2595 1 - ((k + 1))) : Int)) + 1).toNat ((k + 1)) ?_ ?_
        · omega
        · omega
  refine m_sub [(0, (2, ((2595 : Nat) : Int))), (1, (0, 0))] (List.forall_mem_cons.mpr ⟨rfl, List.forall_mem_cons.mpr ⟨rfl, fun _ h => absurd h List.not_mem_nil⟩⟩) ?_
  refine lp5 ((((ga h 2595 1 - (0)) : Int)) + 1).toNat (0) hh1 ghh1 ?_ ?_ ?_ ?_ ?_ ?_
  · exact ww
  · exact jj
  · omega
  · omega
  · exact lw
  · omega
