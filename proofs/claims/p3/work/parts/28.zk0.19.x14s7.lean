set_option maxRecDepth 20000 in
set_option maxHeartbeats 8000000 in
theorem h_X14_thrownAt {h : MH} {k b M : Int} (j14 : J14 h M) (g : Str t14 r14 h) : MCal KX14_thrownAt yX14_thrownAt 0 0 [(2, ((2495 : Nat) : Int)), (0, k), (0, b)] h (mRI fun v h' => ((v = 1 ∧ ¬(0 ≤ k ∧ k < b)) ∨ (v = 0 ∧ 0 ≤ k ∧ k < b)) ∧ Only C14 h h' ∧ J14 h' M ∧ Str t14 r14 h') := by
  refine MCal.ofMW (Or.inl rfl) ⟨cp_X14, rfl⟩ (Nat.le_of_ble_eq_true rfl) ?_
  generalize eQ : (mRI fun v h' => ((v = 1 ∧ ¬(0 ≤ k ∧ k < b)) ∨ (v = 0 ∧ 0 ≤ k ∧ k < b)) ∧ Only C14 h h' ∧ J14 h' M ∧ Str t14 r14 h' : MO → MH → Prop) = Q
  change MW KX14_thrownAt Q 0 0 (pcA pgX14_thrownAt 0) [(0, (2, ((2495 : Nat) : Int))), (1, (0, k)), (2, (0, b))] [] h
  refine hd_locI (i := 1) rfl (fun rk => ?_)
  refine hd_locI (i := 2) rfl (fun rb => ?_)
  have oo : Only C14 h h := Only.refl _ _
  have jj := j14
  have hM := j14.1.1.1
  refine hd_aload pkX14_thrownAt rfl rfl (Int.natCast_nonneg _) ?_
  have cut9 : ∀ (tv : Int), ((tv = 1 ∧ ¬(0 ≤ k ∧ k < b)) ∨ (tv = 0 ∧ 0 ≤ k ∧ k < b)) → MW KX14_thrownAt Q 0 0 (pcA pgX14_thrownAt 9) [(0, (2, ((2495 : Nat) : Int))), (1, (0, k)), (2, (0, b))] [(0, tv), (2, ((2495 : Nat) : Int))] h := by
    intro tv tvv
    refine hd_putI pkX14_thrownAt rfl (g.cell 0 rfl).1 (g.cell 0 rfl).2.1 (fun hh1 ehh1 => ?_)
    have ghh1 : Str t14 r14 hh1 := by rw [ehh1]; exact g.setF rfl
    have oo := oo.trans ((Only.wr ehh1).mono (by decide))
    have jj := jj.fld ehh1 (by decide) (by decide) (by decide)
    have e0 : ga hh1 2495 0 = tv := by
      rw [ehh1]
      exact (ga_sa _ _ _ (by decide) (by decide)).trans (if_pos rfl)
    refine hd_aload pkX14_thrownAt rfl rfl (Int.natCast_nonneg _) ?_
    refine hd_getI pkX14_thrownAt rfl (ghh1.cell 0 rfl).1 (ghh1.cell 0 rfl).2.1 (fun v2 ev2 rv2 => ?_)
    have e9 : v2 = tv := by rw [ev2]; exact e0
    refine hd_if_le pkX14_thrownAt rfl (fun c3 => ?_) (fun c3 => ?_)
    · skip
      refine hd_ipush (z := 0) pkX14_thrownAt rfl ?_
      refine hd_zret pkX14_thrownAt rfl (by omega) ?_
      subst eQ
      refine ⟨rfl, rfl, ?_, oo, jj, ghh1⟩
      show ((0 : Int) = 1 ∧ _) ∨ ((0 : Int) = 0 ∧ _)
      omega
    · skip
      refine hd_ipush (z := 1) pkX14_thrownAt rfl ?_
      refine hd_goto pkX14_thrownAt rfl ?_
      refine hd_zret pkX14_thrownAt rfl (by omega) ?_
      subst eQ
      refine ⟨rfl, rfl, ?_, oo, jj, ghh1⟩
      show ((1 : Int) = 1 ∧ _) ∨ ((1 : Int) = 0 ∧ _)
      omega
  refine hd_iload pkX14_thrownAt rfl rfl ?_
  refine hd_if_lt pkX14_thrownAt rfl (fun c4 => ?_) (fun c4 => ?_)
  · skip
    refine hd_ipush (z := 1) pkX14_thrownAt rfl ?_
    refine hd_goto pkX14_thrownAt rfl ?_
    refine cut9 (1) ?_
    · omega
  · skip
    refine hd_iload pkX14_thrownAt rfl rfl ?_
    refine hd_iload pkX14_thrownAt rfl rfl ?_
    refine hd_ic_lt pkX14_thrownAt rfl (fun c5 => ?_) (fun c5 => ?_)
    · skip
      refine hd_ipush (z := 0) pkX14_thrownAt rfl ?_
      refine cut9 (0) ?_
      · omega
    · skip
      refine hd_ipush (z := 1) pkX14_thrownAt rfl ?_
      refine hd_goto pkX14_thrownAt rfl ?_
      refine cut9 (1) ?_
      · omega
set_option maxRecDepth 20000 in
set_option maxHeartbeats 8000000 in
theorem h_X14_member {h : MH} {k l e M : Int} (j14 : J14 h M) (g : Str t14 r14 h) : MCal KX14_member yX14_member 0 0 [(2, ((2495 : Nat) : Int)), (0, k), (1, l), (1, e)] h (mRI fun v h' => (v = 0 ∨ v = 1) ∧ Only C14 h h' ∧ J14 h' M ∧ Str t14 r14 h') := by
  refine MCal.ofMW (Or.inl rfl) ⟨cp_X14, rfl⟩ (Nat.le_of_ble_eq_true rfl) ?_
  generalize eQ : (mRI fun v h' => (v = 0 ∨ v = 1) ∧ Only C14 h h' ∧ J14 h' M ∧ Str t14 r14 h' : MO → MH → Prop) = Q
  change MW KX14_member Q 0 0 (pcA pgX14_member 0) [(0, (2, ((2495 : Nat) : Int))), (1, (0, k)), (2, (1, l)), (4, (1, e))] [] h
  refine hd_locI (i := 1) rfl (fun rk => ?_)
  refine hd_locL (i := 2) rfl (fun rl => ?_)
  refine hd_locL (i := 4) rfl (fun re => ?_)
  have oo : Only C14 h h := Only.refl _ _
  have jj := j14
  have hM := j14.1.1.1
  refine hd_aload pkX14_member rfl rfl (Int.natCast_nonneg _) ?_
  refine hd_iload pkX14_member rfl rfl ?_
  refine hd_aload pkX14_member rfl rfl (Int.natCast_nonneg _) ?_
  refine hd_getI pkX14_member rfl (g.cell 0 rfl).1 (g.cell 0 rfl).2.1 (fun v1 ev1 rv1 => ?_)
  have qv1 : M = v1 := by rw [ev1]; exact jj.1.1.2.1.symm
  subst qv1
  have cut22 : ∀ (_ : True) (hj22 : MH), Str t14 r14 hj22 → (Only C14 h hj22) → (J14 hj22 M) → MW KX14_member Q 0 0 (pcA pgX14_member 22) [(0, (2, ((2495 : Nat) : Int))), (1, (0, k)), (2, (1, l)), (4, (1, e))] [] hj22 := by
    intro _ hj22 gc22 oo jj
    refine hd_ipush (z := 0) pkX14_member rfl ?_
    refine hd_zret pkX14_member rfl (by omega) ?_
    subst eQ
    refine ⟨rfl, rfl, ?_, oo, jj, gc22⟩
    show (0 : Int) = 0 ∨ (0 : Int) = 1
    omega
  refine hd_callV pkX14_member rfl (q := (KX14_thrownAt, yX14_thrownAt, 14, 2, 0)) rfl rfl rfl (As := [(0, k), (0, M)]) (rest := []) (c := 2495) rfl rfl (Nat.le_of_ble_eq_true rfl) (g.cell 0 rfl).1 (g.cell 0 rfl).2.1 (h_X14_thrownAt jj g) (hd_bI (fun tv hc2 pt => ?_))
  have ghc2 : Str t14 r14 hc2 := pt.2.2.2
  have oo := oo.trans pt.2.1
  have jj := pt.2.2.1
  have tf := pt.1
  refine hd_if_ne pkX14_member rfl (fun c3 => ?_) (fun c3 => ?_)
  · skip
    refine cut22 trivial hc2 ghc2 ?_ ?_
    · exact oo
    · exact jj
  · skip
    refine hd_lload pkX14_member rfl rfl ?_
    refine hd_lpush (z := 1) pkX14_member rfl ?_
    refine hd_lc_lt pkX14_member rfl (fun c4 => ?_) (fun c4 => ?_)
    · skip
      refine cut22 trivial hc2 ghc2 ?_ ?_
      · exact oo
      · exact jj
    · skip
      refine hd_lload pkX14_member rfl rfl ?_
      refine hd_lpush (z := 12) pkX14_member rfl ?_
      refine hd_lc_gt pkX14_member rfl (fun c5 => ?_) (fun c5 => ?_)
      · skip
        refine cut22 trivial hc2 ghc2 ?_ ?_
        · exact oo
        · exact jj
      · skip
        refine hd_lload pkX14_member rfl rfl ?_
        refine hd_lpush (z := 1) pkX14_member rfl ?_
        refine hd_lc_lt pkX14_member rfl (fun c6 => ?_) (fun c6 => ?_)
        · skip
          refine cut22 trivial hc2 ghc2 ?_ ?_
          · exact oo
          · exact jj
        · skip
          refine hd_lload pkX14_member rfl rfl ?_
          refine hd_lpush (z := 12) pkX14_member rfl ?_
          refine hd_lc_le pkX14_member rfl (fun c7 => ?_) (fun c7 => ?_)
          · skip
            refine hd_aload pkX14_member rfl rfl (Int.natCast_nonneg _) ?_
            refine hd_getR (n := 2498) pkX14_member rfl (ghc2.cell 0 rfl).1 (ghc2.cell 0 rfl).2.1 (ghc2.ref 2 rfl) ?_
            refine hd_iload pkX14_member rfl rfl ?_
            refine hd_lload pkX14_member rfl rfl ?_
            refine hd_l2i pkX14_member rfl (by omega) ?_
            refine hd_iast (n := 3) pkX14_member rfl (ghc2.cell 3 rfl) (by decide) (by omega) (by omega) (fun hh8 ehh8 => ?_)
            have ghh8 : Str t14 r14 hh8 := by rw [ehh8]; exact ghc2.setA rfl
            have oo := oo.trans ((Only.wr ehh8).mono (by decide))
            have jj := jj.j (jj.1.len ehh8 (by omega) ⟨by omega, by omega⟩) ehh8 (by decide)
            refine hd_aload pkX14_member rfl rfl (Int.natCast_nonneg _) ?_
            refine hd_getR (n := 2499) pkX14_member rfl (ghh8.cell 0 rfl).1 (ghh8.cell 0 rfl).2.1 (ghh8.ref 3 rfl) ?_
            refine hd_iload pkX14_member rfl rfl ?_
            refine hd_lload pkX14_member rfl rfl ?_
            refine hd_l2i pkX14_member rfl (by omega) ?_
            refine hd_iast (n := 3) pkX14_member rfl (ghh8.cell 4 rfl) (by decide) (by omega) (by omega) (fun hh9 ehh9 => ?_)
            have ghh9 : Str t14 r14 hh9 := by rw [ehh9]; exact ghh8.setA rfl
            have oo := oo.trans ((Only.wr ehh9).mono (by decide))
            have jj := jj.j (jj.1.stf ehh9 (by omega) ⟨by omega, by omega⟩) ehh9 (by decide)
            refine hd_aload pkX14_member rfl rfl (Int.natCast_nonneg _) ?_
            refine hd_ipush (z := 0) pkX14_member rfl ?_
            refine hd_putZ pkX14_member rfl (ghh9.cell 0 rfl).1 (ghh9.cell 0 rfl).2.1 (by omega) (fun hh10 ehh10 => ?_)
            have ghh10 : Str t14 r14 hh10 := by rw [ehh10]; exact ghh9.setF rfl
            have oo := oo.trans ((Only.wr ehh10).mono (by decide))
            have jj := jj.uns ehh10
            refine hd_ipush (z := 1) pkX14_member rfl ?_
            refine hd_zret pkX14_member rfl (by omega) ?_
            subst eQ
            refine ⟨rfl, rfl, ?_, oo, jj, ghh10⟩
            show (1 : Int) = 0 ∨ (1 : Int) = 1
            omega
          · skip
            refine cut22 trivial hc2 ghc2 ?_ ?_
            · exact oo
            · exact jj
set_option maxRecDepth 20000 in
set_option maxHeartbeats 8000000 in
theorem h_X14_support {h : MH} {n a on M : Int} (on9 : on = 0 ∨ on = 1) (j14 : J14 h M) (g : Str t14 r14 h) : MCal KX14_support yX14_support 0 0 [(2, ((2495 : Nat) : Int)), (0, n), (0, a), (0, on)] h (mRI fun v h' => (v = 0 ∨ v = 1) ∧ Only C14 h h' ∧ J14 h' M ∧ Str t14 r14 h') := by
  refine MCal.ofMW (Or.inl rfl) ⟨cp_X14, rfl⟩ (Nat.le_of_ble_eq_true rfl) ?_
  generalize eQ : (mRI fun v h' => (v = 0 ∨ v = 1) ∧ Only C14 h h' ∧ J14 h' M ∧ Str t14 r14 h' : MO → MH → Prop) = Q
  change MW KX14_support Q 0 0 (pcA pgX14_support 0) [(0, (2, ((2495 : Nat) : Int))), (1, (0, n)), (2, (0, a)), (3, (0, on))] [] h
  refine hd_locI (i := 1) rfl (fun rn => ?_)
  refine hd_locI (i := 2) rfl (fun ra => ?_)
  refine hd_locI (i := 3) rfl (fun ron => ?_)
  have oo : Only C14 h h := Only.refl _ _
  have jj := j14
  have hM := j14.1.1.1
  refine hd_aload pkX14_support rfl rfl (Int.natCast_nonneg _) ?_
  refine hd_iload pkX14_support rfl rfl ?_
  refine hd_aload pkX14_support rfl rfl (Int.natCast_nonneg _) ?_
  refine hd_getI pkX14_support rfl (g.cell 0 rfl).1 (g.cell 0 rfl).2.1 (fun v1 ev1 rv1 => ?_)
  have qv1 : M = v1 := by rw [ev1]; exact jj.1.1.2.1.symm
  subst qv1
  refine hd_ipush (z := 1) pkX14_support rfl ?_
  refine hd_iadd pkX14_support rfl (by omega) ?_
  have cut13 : ∀ (_ : True) (hj13 : MH), Str t14 r14 hj13 → (Only C14 h hj13) → (J14 hj13 M) → MW KX14_support Q 0 0 (pcA pgX14_support 13) [(0, (2, ((2495 : Nat) : Int))), (1, (0, n)), (2, (0, a)), (3, (0, on))] [] hj13 := by
    intro _ hj13 gc13 oo jj
    refine hd_ipush (z := 0) pkX14_support rfl ?_
    refine hd_zret pkX14_support rfl (by omega) ?_
    subst eQ
    refine ⟨rfl, rfl, ?_, oo, jj, gc13⟩
    show (0 : Int) = 0 ∨ (0 : Int) = 1
    omega
  refine hd_callV pkX14_support rfl (q := (KX14_thrownAt, yX14_thrownAt, 14, 2, 0)) rfl rfl rfl (As := [(0, n), (0, (M + 1))]) (rest := []) (c := 2495) rfl rfl (Nat.le_of_ble_eq_true rfl) (g.cell 0 rfl).1 (g.cell 0 rfl).2.1 (h_X14_thrownAt jj g) (hd_bI (fun tv hc2 pt => ?_))
  have ghc2 : Str t14 r14 hc2 := pt.2.2.2
  have oo := oo.trans pt.2.1
  have jj := pt.2.2.1
  have tf := pt.1
  refine hd_if_ne pkX14_support rfl (fun c3 => ?_) (fun c3 => ?_)
  · skip
    refine cut13 trivial hc2 ghc2 ?_ ?_
    · exact oo
    · exact jj
  · skip
    refine hd_iload pkX14_support rfl rfl ?_
    refine hd_if_lt pkX14_support rfl (fun c4 => ?_) (fun c4 => ?_)
    · skip
      refine cut13 trivial hc2 ghc2 ?_ ?_
      · exact oo
      · exact jj
    · skip
      refine hd_iload pkX14_support rfl rfl ?_
      refine hd_ipush (z := 1) pkX14_support rfl ?_
      refine hd_ic_le pkX14_support rfl (fun c5 => ?_) (fun c5 => ?_)
      · skip
        have cut26 : ∀ (ws : Int), (ws = 0 ∨ ws = 1) → MW KX14_support Q 0 0 (pcA pgX14_support 26) [(0, (2, ((2495 : Nat) : Int))), (1, (0, n)), (2, (0, a)), (3, (0, on))] [(0, ws)] hc2 := by
          intro ws wsv
          refine hd_istore pkX14_support rfl rfl ?_
          change MW _ _ _ _ _ [(4, (0, ws)), (0, (2, ((2495 : Nat) : Int))), (1, (0, n)), (2, (0, a)), (3, (0, on))] _ _
          have cut40 : ∀ (_ : True) (hj40 : MH), Str t14 r14 hj40 → (Only C14 h hj40) → (J14 hj40 M) → MW KX14_support Q 0 0 (pcA pgX14_support 40) [(0, (2, ((2495 : Nat) : Int))), (1, (0, n)), (2, (0, a)), (3, (0, on)), (4, (0, ws))] [] hj40 := by
            intro _ hj40 gc40 oo jj
            refine hd_aload pkX14_support rfl rfl (Int.natCast_nonneg _) ?_
            refine hd_getR (n := 2503) pkX14_support rfl (gc40.cell 0 rfl).1 (gc40.cell 0 rfl).2.1 (gc40.ref 7 rfl) ?_
            refine hd_iload pkX14_support rfl rfl ?_
            have cut54 : ∀ (sn : Int), (-1000 ≤ sn ∧ sn ≤ 1000) → MW KX14_support Q 0 0 (pcA pgX14_support 54) [(0, (2, ((2495 : Nat) : Int))), (1, (0, n)), (2, (0, a)), (3, (0, on)), (4, (0, ws))] [(0, sn), (0, n), (2, ((2503 : Nat) : Int))] hj40 := by
              intro sn snv
              refine hd_iast (n := 4) pkX14_support rfl (gc40.cell 8 rfl) (by decide) (by omega) (by omega) (fun hh6 ehh6 => ?_)
              have ghh6 : Str t14 r14 hh6 := by rw [ehh6]; exact gc40.setA rfl
              have oo := oo.trans ((Only.wr ehh6).mono (by decide))
              have jj := jj.j (jj.1.stl ehh6 (by omega) ⟨by omega, by omega⟩) ehh6 (by decide)
              refine hd_aload pkX14_support rfl rfl (Int.natCast_nonneg _) ?_
              refine hd_ipush (z := 0) pkX14_support rfl ?_
              refine hd_putZ pkX14_support rfl (ghh6.cell 0 rfl).1 (ghh6.cell 0 rfl).2.1 (by omega) (fun hh7 ehh7 => ?_)
              have ghh7 : Str t14 r14 hh7 := by rw [ehh7]; exact ghh6.setF rfl
              have oo := oo.trans ((Only.wr ehh7).mono (by decide))
              have jj := jj.uns ehh7
              refine hd_iload pkX14_support rfl rfl ?_
              refine hd_zret pkX14_support rfl (by omega) ?_
              subst eQ
              refine ⟨rfl, rfl, ?_, oo, jj, ghh7⟩
              show (ws : Int) = 0 ∨ (ws : Int) = 1
              omega
            refine hd_aload pkX14_support rfl rfl (Int.natCast_nonneg _) ?_
            refine hd_getR (n := 2500) pkX14_support rfl (gc40.cell 0 rfl).1 (gc40.cell 0 rfl).2.1 (gc40.ref 4 rfl) ?_
            refine hd_iload pkX14_support rfl rfl ?_
            refine hd_zald (n := 4) pkX14_support rfl (gc40.cell 5 rfl) (by omega) (by omega) (fun v8 ev8 rv8 => ?_)
            refine hd_if_eq pkX14_support rfl (fun c9 => ?_) (fun c9 => ?_)
            · skip
              refine hd_ipush (z := 0) pkX14_support rfl ?_
              refine cut54 (0) ?_
              · omega
            · skip
              refine hd_aload pkX14_support rfl rfl (Int.natCast_nonneg _) ?_
              refine hd_getR (n := 2503) pkX14_support rfl (gc40.cell 0 rfl).1 (gc40.cell 0 rfl).2.1 (gc40.ref 7 rfl) ?_
              refine hd_iload pkX14_support rfl rfl ?_
              refine hd_iald (n := 4) pkX14_support rfl (gc40.cell 8 rfl) (by omega) (by omega) (fun v10 ev10 rv10 => ?_)
              have bs : -1000 ≤ v10 ∧ v10 ≤ 1000 := by rw [ev10]; exact jj.1.1.2.2.2 n (by omega) (by omega)
              refine hd_goto pkX14_support rfl ?_
              refine cut54 (v10) ?_
              · omega
          refine hd_iload pkX14_support rfl rfl ?_
          refine hd_if_ne pkX14_support rfl (fun c11 => ?_) (fun c11 => ?_)
          · skip
            refine hd_aload pkX14_support rfl rfl (Int.natCast_nonneg _) ?_
            refine hd_getR (n := 2501) pkX14_support rfl (ghc2.cell 0 rfl).1 (ghc2.cell 0 rfl).2.1 (ghc2.ref 5 rfl) ?_
            refine hd_iload pkX14_support rfl rfl ?_
            refine hd_iload pkX14_support rfl rfl ?_
            refine hd_zast (n := 4) pkX14_support rfl (ghc2.cell 6 rfl) (by decide) (by omega) (by omega) (by omega) (fun hh12 ehh12 => ?_)
            have ghh12 : Str t14 r14 hh12 := by rw [ehh12]; exact ghc2.setA rfl
            have oo := oo.trans ((Only.wr ehh12).mono (by decide))
            have jj := jj.cel (Only.wr ehh12) (by decide) (by decide) (by decide)
            refine m_sub [(0, (2, ((2495 : Nat) : Int))), (1, (0, n)), (2, (0, a)), (3, (0, on)), (4, (0, ws))] (List.forall_mem_cons.mpr ⟨rfl, List.forall_mem_cons.mpr ⟨rfl, List.forall_mem_cons.mpr ⟨rfl, List.forall_mem_cons.mpr ⟨rfl, List.forall_mem_cons.mpr ⟨rfl, fun _ h => absurd h List.not_mem_nil⟩⟩⟩⟩⟩) ?_
            refine cut40 trivial hh12 ghh12 ?_ ?_
            · exact oo
            · exact jj
          · skip
            refine hd_aload pkX14_support rfl rfl (Int.natCast_nonneg _) ?_
            refine hd_getR (n := 2500) pkX14_support rfl (ghc2.cell 0 rfl).1 (ghc2.cell 0 rfl).2.1 (ghc2.ref 4 rfl) ?_
            refine hd_iload pkX14_support rfl rfl ?_
            refine hd_iload pkX14_support rfl rfl ?_
            refine hd_zast (n := 4) pkX14_support rfl (ghc2.cell 5 rfl) (by decide) (by omega) (by omega) (by omega) (fun hh13 ehh13 => ?_)
            have ghh13 : Str t14 r14 hh13 := by rw [ehh13]; exact ghc2.setA rfl
            have oo := oo.trans ((Only.wr ehh13).mono (by decide))
            have jj := jj.cel (Only.wr ehh13) (by decide) (by decide) (by decide)
            refine hd_goto pkX14_support rfl ?_
            refine m_sub [(0, (2, ((2495 : Nat) : Int))), (1, (0, n)), (2, (0, a)), (3, (0, on)), (4, (0, ws))] (List.forall_mem_cons.mpr ⟨rfl, List.forall_mem_cons.mpr ⟨rfl, List.forall_mem_cons.mpr ⟨rfl, List.forall_mem_cons.mpr ⟨rfl, List.forall_mem_cons.mpr ⟨rfl, fun _ h => absurd h List.not_mem_nil⟩⟩⟩⟩⟩) ?_
            refine cut40 trivial hh13 ghh13 ?_ ?_
            · exact oo
            · exact jj
        refine hd_iload pkX14_support rfl rfl ?_
        refine hd_if_ne pkX14_support rfl (fun c14 => ?_) (fun c14 => ?_)
        · skip
          refine hd_aload pkX14_support rfl rfl (Int.natCast_nonneg _) ?_
          refine hd_getR (n := 2501) pkX14_support rfl (ghc2.cell 0 rfl).1 (ghc2.cell 0 rfl).2.1 (ghc2.ref 5 rfl) ?_
          refine hd_iload pkX14_support rfl rfl ?_
          refine hd_zald (n := 4) pkX14_support rfl (ghc2.cell 6 rfl) (by omega) (by omega) (fun v15 ev15 rv15 => ?_)
          refine cut26 (v15) ?_
          · omega
        · skip
          refine hd_aload pkX14_support rfl rfl (Int.natCast_nonneg _) ?_
          refine hd_getR (n := 2500) pkX14_support rfl (ghc2.cell 0 rfl).1 (ghc2.cell 0 rfl).2.1 (ghc2.ref 4 rfl) ?_
          refine hd_iload pkX14_support rfl rfl ?_
          refine hd_zald (n := 4) pkX14_support rfl (ghc2.cell 5 rfl) (by omega) (by omega) (fun v16 ev16 rv16 => ?_)
          refine hd_goto pkX14_support rfl ?_
          refine cut26 (v16) ?_
          · omega
      · skip
        refine cut13 trivial hc2 ghc2 ?_ ?_
        · exact oo
        · exact jj
set_option maxRecDepth 20000 in
set_option maxHeartbeats 8000000 in
theorem h_X14_hinge {h : MH} {k a on M : Int} (on9 : on = 0 ∨ on = 1) (j14 : J14 h M) (g : Str t14 r14 h) : MCal KX14_hinge yX14_hinge 0 0 [(2, ((2495 : Nat) : Int)), (0, k), (0, a), (0, on)] h (mRI fun v h' => (v = 0 ∨ v = 1) ∧ Only C14 h h' ∧ J14 h' M ∧ Str t14 r14 h') := by
  refine MCal.ofMW (Or.inl rfl) ⟨cp_X14, rfl⟩ (Nat.le_of_ble_eq_true rfl) ?_
  generalize eQ : (mRI fun v h' => (v = 0 ∨ v = 1) ∧ Only C14 h h' ∧ J14 h' M ∧ Str t14 r14 h' : MO → MH → Prop) = Q
  change MW KX14_hinge Q 0 0 (pcA pgX14_hinge 0) [(0, (2, ((2495 : Nat) : Int))), (1, (0, k)), (2, (0, a)), (3, (0, on))] [] h
  refine hd_locI (i := 1) rfl (fun rk => ?_)
  refine hd_locI (i := 2) rfl (fun ra => ?_)
  refine hd_locI (i := 3) rfl (fun ron => ?_)
  have oo : Only C14 h h := Only.refl _ _
  have jj := j14
  have hM := j14.1.1.1
  refine hd_aload pkX14_hinge rfl rfl (Int.natCast_nonneg _) ?_
  refine hd_iload pkX14_hinge rfl rfl ?_
  refine hd_aload pkX14_hinge rfl rfl (Int.natCast_nonneg _) ?_
  refine hd_getI pkX14_hinge rfl (g.cell 0 rfl).1 (g.cell 0 rfl).2.1 (fun v1 ev1 rv1 => ?_)
  have qv1 : M = v1 := by rw [ev1]; exact jj.1.1.2.1.symm
  subst qv1
  have cut11 : ∀ (_ : True) (hj11 : MH), Str t14 r14 hj11 → (Only C14 h hj11) → (J14 hj11 M) → MW KX14_hinge Q 0 0 (pcA pgX14_hinge 11) [(0, (2, ((2495 : Nat) : Int))), (1, (0, k)), (2, (0, a)), (3, (0, on))] [] hj11 := by
    intro _ hj11 gc11 oo jj
    refine hd_ipush (z := 0) pkX14_hinge rfl ?_
    refine hd_zret pkX14_hinge rfl (by omega) ?_
    subst eQ
    refine ⟨rfl, rfl, ?_, oo, jj, gc11⟩
    show (0 : Int) = 0 ∨ (0 : Int) = 1
    omega
  refine hd_callV pkX14_hinge rfl (q := (KX14_thrownAt, yX14_thrownAt, 14, 2, 0)) rfl rfl rfl (As := [(0, k), (0, M)]) (rest := []) (c := 2495) rfl rfl (Nat.le_of_ble_eq_true rfl) (g.cell 0 rfl).1 (g.cell 0 rfl).2.1 (h_X14_thrownAt jj g) (hd_bI (fun tv hc2 pt => ?_))
  have ghc2 : Str t14 r14 hc2 := pt.2.2.2
  have oo := oo.trans pt.2.1
  have jj := pt.2.2.1
  have tf := pt.1
  refine hd_if_ne pkX14_hinge rfl (fun c3 => ?_) (fun c3 => ?_)
  · skip
    refine cut11 trivial hc2 ghc2 ?_ ?_
    · exact oo
    · exact jj
  · skip
    refine hd_iload pkX14_hinge rfl rfl ?_
    refine hd_if_lt pkX14_hinge rfl (fun c4 => ?_) (fun c4 => ?_)
    · skip
      refine cut11 trivial hc2 ghc2 ?_ ?_
      · exact oo
      · exact jj
    · skip
      refine hd_iload pkX14_hinge rfl rfl ?_
      refine hd_ipush (z := 1) pkX14_hinge rfl ?_
      refine hd_ic_le pkX14_hinge rfl (fun c5 => ?_) (fun c5 => ?_)
      · skip
        refine hd_aload pkX14_hinge rfl rfl (Int.natCast_nonneg _) ?_
        refine hd_getR (n := 2502) pkX14_hinge rfl (ghc2.cell 0 rfl).1 (ghc2.cell 0 rfl).2.1 (ghc2.ref 6 rfl) ?_
        refine hd_ipush (z := 2) pkX14_hinge rfl ?_
        refine hd_iload pkX14_hinge rfl rfl ?_
        refine hd_imul pkX14_hinge rfl (by omega) ?_
        refine hd_iload pkX14_hinge rfl rfl ?_
        refine hd_iadd pkX14_hinge rfl (by omega) ?_
        refine hd_zald (n := 6) pkX14_hinge rfl (ghc2.cell 7 rfl) (by omega) (by omega) (fun v6 ev6 rv6 => ?_)
        refine hd_istore pkX14_hinge rfl rfl ?_
        change MW _ _ _ _ _ [(4, (0, v6)), (0, (2, ((2495 : Nat) : Int))), (1, (0, k)), (2, (0, a)), (3, (0, on))] _ _
        refine hd_aload pkX14_hinge rfl rfl (Int.natCast_nonneg _) ?_
        refine hd_getR (n := 2502) pkX14_hinge rfl (ghc2.cell 0 rfl).1 (ghc2.cell 0 rfl).2.1 (ghc2.ref 6 rfl) ?_
        refine hd_ipush (z := 2) pkX14_hinge rfl ?_
        refine hd_iload pkX14_hinge rfl rfl ?_
        refine hd_imul pkX14_hinge rfl (by omega) ?_
        refine hd_iload pkX14_hinge rfl rfl ?_
        refine hd_iadd pkX14_hinge rfl (by omega) ?_
        refine hd_iload pkX14_hinge rfl rfl ?_
        refine hd_zast (n := 6) pkX14_hinge rfl (ghc2.cell 7 rfl) (by decide) (by omega) (by omega) (by omega) (fun hh7 ehh7 => ?_)
        have ghh7 : Str t14 r14 hh7 := by rw [ehh7]; exact ghc2.setA rfl
        have oo := oo.trans ((Only.wr ehh7).mono (by decide))
        have jj := jj.cel (Only.wr ehh7) (by decide) (by decide) (by decide)
        refine hd_aload pkX14_hinge rfl rfl (Int.natCast_nonneg _) ?_
        refine hd_ipush (z := 0) pkX14_hinge rfl ?_
        refine hd_putZ pkX14_hinge rfl (ghh7.cell 0 rfl).1 (ghh7.cell 0 rfl).2.1 (by omega) (fun hh8 ehh8 => ?_)
        have ghh8 : Str t14 r14 hh8 := by rw [ehh8]; exact ghh7.setF rfl
        have oo := oo.trans ((Only.wr ehh8).mono (by decide))
        have jj := jj.uns ehh8
        refine hd_iload pkX14_hinge rfl rfl ?_
        refine hd_zret pkX14_hinge rfl (by omega) ?_
        subst eQ
        refine ⟨rfl, rfl, ?_, oo, jj, ghh8⟩
        show (v6 : Int) = 0 ∨ (v6 : Int) = 1
        omega
      · skip
        refine cut11 trivial hc2 ghc2 ?_ ?_
        · exact oo
        · exact jj
set_option maxRecDepth 20000 in
set_option maxHeartbeats 8000000 in
theorem h_X14_settled {h : MH} {n v M : Int} (j14 : J14 h M) (g : Str t14 r14 h) : MCal KX14_settled yX14_settled 0 0 [(2, ((2495 : Nat) : Int)), (0, n), (1, v)] h (mRI fun v h' => (v = 0 ∨ v = 1) ∧ Only C14 h h' ∧ J14 h' M ∧ Str t14 r14 h') := by
  refine MCal.ofMW (Or.inl rfl) ⟨cp_X14, rfl⟩ (Nat.le_of_ble_eq_true rfl) ?_
  generalize eQ : (mRI fun v h' => (v = 0 ∨ v = 1) ∧ Only C14 h h' ∧ J14 h' M ∧ Str t14 r14 h' : MO → MH → Prop) = Q
  change MW KX14_settled Q 0 0 (pcA pgX14_settled 0) [(0, (2, ((2495 : Nat) : Int))), (1, (0, n)), (2, (1, v))] [] h
  refine hd_locI (i := 1) rfl (fun rn => ?_)
  refine hd_locL (i := 2) rfl (fun rv => ?_)
  have oo : Only C14 h h := Only.refl _ _
  have jj := j14
  have hM := j14.1.1.1
  refine hd_aload pkX14_settled rfl rfl (Int.natCast_nonneg _) ?_
  refine hd_ipush (z := 0) pkX14_settled rfl ?_
  refine hd_putI pkX14_settled rfl (g.cell 0 rfl).1 (g.cell 0 rfl).2.1 (fun hh1 ehh1 => ?_)
  have ghh1 : Str t14 r14 hh1 := by rw [ehh1]; exact g.setF rfl
  have oo := oo.trans ((Only.wr ehh1).mono (by decide))
  have jj := jj.fld ehh1 (by decide) (by decide) (by decide)
  have cut20 : ∀ (_ : True), MW KX14_settled Q 0 0 (pcA pgX14_settled 20) [(0, (2, ((2495 : Nat) : Int))), (1, (0, n)), (2, (1, v))] [] hh1 := by
    intro _
    refine hd_ipush (z := 0) pkX14_settled rfl ?_
    refine hd_zret pkX14_settled rfl (by omega) ?_
    subst eQ
    refine ⟨rfl, rfl, ?_, oo, jj, ghh1⟩
    show (0 : Int) = 0 ∨ (0 : Int) = 1
    omega
  refine hd_aload pkX14_settled rfl rfl (Int.natCast_nonneg _) ?_
  refine hd_iload pkX14_settled rfl rfl ?_
  refine hd_callV pkX14_settled rfl (q := (KX14_noNode, yX14_noNode, 14, 1, 0)) rfl rfl rfl (As := [(0, n)]) (rest := []) (c := 2495) rfl rfl (Nat.le_of_ble_eq_true rfl) (ghh1.cell 0 rfl).1 (ghh1.cell 0 rfl).2.1 (h_X14_noNode jj.1.1.2.1 ghh1) (hd_bI (fun nb hc2 pb => ?_))
  obtain ⟨pb, ehc2⟩ := pb
  replace ehc2 := ehc2.symm
  subst ehc2
  refine hd_if_ne pkX14_settled rfl (fun c3 => ?_) (fun c3 => ?_)
  · skip
    refine cut20 trivial
  · skip
    refine hd_aload pkX14_settled rfl rfl (Int.natCast_nonneg _) ?_
    refine hd_getR (n := 2500) pkX14_settled rfl (ghh1.cell 0 rfl).1 (ghh1.cell 0 rfl).2.1 (ghh1.ref 4 rfl) ?_
    refine hd_iload pkX14_settled rfl rfl ?_
    refine hd_zald (n := 4) pkX14_settled rfl (ghh1.cell 5 rfl) (by omega) (by omega) (fun v4 ev4 rv4 => ?_)
    refine hd_if_eq pkX14_settled rfl (fun c5 => ?_) (fun c5 => ?_)
    · skip
      refine cut20 trivial
    · skip
      refine hd_lload pkX14_settled rfl rfl ?_
      refine hd_lpush (z := (-1000)) pkX14_settled rfl ?_
      refine hd_lc_lt pkX14_settled rfl (fun c6 => ?_) (fun c6 => ?_)
      · skip
        refine cut20 trivial
      · skip
        refine hd_lload pkX14_settled rfl rfl ?_
        refine hd_lpush (z := 1000) pkX14_settled rfl ?_
        refine hd_lc_le pkX14_settled rfl (fun c7 => ?_) (fun c7 => ?_)
        · skip
          refine hd_aload pkX14_settled rfl rfl (Int.natCast_nonneg _) ?_
          refine hd_getR (n := 2503) pkX14_settled rfl (ghh1.cell 0 rfl).1 (ghh1.cell 0 rfl).2.1 (ghh1.ref 7 rfl) ?_
          refine hd_iload pkX14_settled rfl rfl ?_
          refine hd_lload pkX14_settled rfl rfl ?_
          refine hd_l2i pkX14_settled rfl (by omega) ?_
          refine hd_iast (n := 4) pkX14_settled rfl (ghh1.cell 8 rfl) (by decide) (by omega) (by omega) (fun hh8 ehh8 => ?_)
          have ghh8 : Str t14 r14 hh8 := by rw [ehh8]; exact ghh1.setA rfl
          have oo := oo.trans ((Only.wr ehh8).mono (by decide))
          have jj := jj.j (jj.1.stl ehh8 (by omega) ⟨by omega, by omega⟩) ehh8 (by decide)
          refine hd_aload pkX14_settled rfl rfl (Int.natCast_nonneg _) ?_
          refine hd_ipush (z := 0) pkX14_settled rfl ?_
          refine hd_putZ pkX14_settled rfl (ghh8.cell 0 rfl).1 (ghh8.cell 0 rfl).2.1 (by omega) (fun hh9 ehh9 => ?_)
          have ghh9 : Str t14 r14 hh9 := by rw [ehh9]; exact ghh8.setF rfl
          have oo := oo.trans ((Only.wr ehh9).mono (by decide))
          have jj := jj.uns ehh9
          refine hd_ipush (z := 1) pkX14_settled rfl ?_
          refine hd_zret pkX14_settled rfl (by omega) ?_
          subst eQ
          refine ⟨rfl, rfl, ?_, oo, jj, ghh9⟩
          show (1 : Int) = 0 ∨ (1 : Int) = 1
          omega
        · skip
          refine cut20 trivial
set_option maxRecDepth 20000 in
set_option maxHeartbeats 8000000 in
theorem h_X14_count {h : MH} {w M : Int} (j14 : J14 h M) (g : Str t14 r14 h) : MCal KX14_count yX14_count 0 0 [(2, ((2495 : Nat) : Int)), (0, w)] h (mRI fun v h' => ((-1 ≤ v ∧ v ≤ 1000) ∧ (w = 0 → v ≤ 3)) ∧ Only C14 h h' ∧ J14 h' M ∧ Str t14 r14 h') := by
  refine MCal.ofMW (Or.inl rfl) ⟨cp_X14, rfl⟩ (Nat.le_of_ble_eq_true rfl) ?_
  have m3 : 1 ≤ M ∧ M ≤ 3 := j14.1.1.1
  generalize eQ : (mRI fun v h' => ((-1 ≤ v ∧ v ≤ 1000) ∧ (w = 0 → v ≤ 3)) ∧ Only C14 h h' ∧ J14 h' M ∧ Str t14 r14 h' : MO → MH → Prop) = Q
  change MW KX14_count Q 0 0 (pcA pgX14_count 0) [(0, (2, ((2495 : Nat) : Int))), (1, (0, w))] [] h
  refine hd_locI (i := 1) rfl (fun rw => ?_)
  have oo : Only C14 h h := Only.refl _ _
  have jj := j14
  have hM := j14.1.1.1
  refine hd_aload pkX14_count rfl rfl (Int.natCast_nonneg _) ?_
  refine hd_ipush (z := 0) pkX14_count rfl ?_
  refine hd_putI pkX14_count rfl (g.cell 0 rfl).1 (g.cell 0 rfl).2.1 (fun hh1 ehh1 => ?_)
  have ghh1 : Str t14 r14 hh1 := by rw [ehh1]; exact g.setF rfl
  have oo := oo.trans ((Only.wr ehh1).mono (by decide))
  have jj := jj.fld ehh1 (by decide) (by decide) (by decide)
  refine hd_ipush (z := 0) pkX14_count rfl ?_
  refine hd_istore pkX14_count rfl rfl ?_
  change MW _ _ _ _ _ [(2, (0, 0)), (0, (2, ((2495 : Nat) : Int))), (1, (0, w))] _ _
  have cut10 : ∀ (_ : True), MW KX14_count Q 0 0 (pcA pgX14_count 10) [(0, (2, ((2495 : Nat) : Int))), (1, (0, w)), (2, (0, 0))] [] hh1 := by
    intro _
    refine hd_iload pkX14_count rfl rfl ?_
    refine hd_if_ne pkX14_count rfl (fun c2 => ?_) (fun c2 => ?_)
    · skip
      refine hd_aload pkX14_count rfl rfl (Int.natCast_nonneg _) ?_
      refine hd_getI pkX14_count rfl (ghh1.cell 0 rfl).1 (ghh1.cell 0 rfl).2.1 (fun v3 ev3 rv3 => ?_)
      have r9 : 0 ≤ v3 ∧ v3 ≤ 8 := by rw [ev3]; exact jj.2.1.1
      refine hd_iret pkX14_count rfl ?_
      subst eQ
      refine ⟨rfl, rfl, ?_, oo, jj, ghh1⟩
      show (-1 ≤ (v3 : Int) ∧ (v3 : Int) ≤ 1000) ∧ (w = 0 → (v3 : Int) ≤ 3)
      omega
    · skip
      refine hd_aload pkX14_count rfl rfl (Int.natCast_nonneg _) ?_
      refine hd_getI pkX14_count rfl (ghh1.cell 0 rfl).1 (ghh1.cell 0 rfl).2.1 (fun v4 ev4 rv4 => ?_)
      have qv4 : M = v4 := by rw [ev4]; exact jj.1.1.2.1.symm
      subst qv4
      refine hd_goto pkX14_count rfl ?_
      refine hd_iret pkX14_count rfl ?_
      subst eQ
      refine ⟨rfl, rfl, ?_, oo, jj, ghh1⟩
      show (-1 ≤ (M : Int) ∧ (M : Int) ≤ 1000) ∧ (w = 0 → (M : Int) ≤ 3)
      omega
  refine hd_iload pkX14_count rfl rfl ?_
  refine hd_if_eq pkX14_count rfl (fun c5 => ?_) (fun c5 => ?_)
  · skip
    refine m_sub [(0, (2, ((2495 : Nat) : Int))), (1, (0, w)), (2, (0, 0))] (List.forall_mem_cons.mpr ⟨rfl, List.forall_mem_cons.mpr ⟨rfl, List.forall_mem_cons.mpr ⟨rfl, fun _ h => absurd h List.not_mem_nil⟩⟩⟩) ?_
    refine cut10 trivial
  · skip
    refine hd_iload pkX14_count rfl rfl ?_
    refine hd_ipush (z := 1) pkX14_count rfl ?_
    refine hd_ic_ne pkX14_count rfl (fun c6 => ?_) (fun c6 => ?_)
    · skip
      refine hd_iload pkX14_count rfl rfl ?_
      refine hd_if_lt pkX14_count rfl (fun c7 => ?_) (fun c7 => ?_)
      · skip
        refine hd_ipush (z := (-1)) pkX14_count rfl ?_
        refine hd_iret pkX14_count rfl ?_
        subst eQ
        refine ⟨rfl, rfl, ?_, oo, jj, ghh1⟩
        show (-1 ≤ ((-1) : Int) ∧ ((-1) : Int) ≤ 1000) ∧ (w = 0 → ((-1) : Int) ≤ 3)
        omega
      · skip
        refine hd_iload pkX14_count rfl rfl ?_
        refine hd_ipush (z := 4) pkX14_count rfl ?_
        refine hd_ic_le pkX14_count rfl (fun c8 => ?_) (fun c8 => ?_)
        · skip
          refine hd_ipush (z := 0) pkX14_count rfl ?_
          refine hd_istore pkX14_count rfl rfl ?_
          change MW _ _ _ _ _ [(3, (0, 0)), (2, (0, 0)), (0, (2, ((2495 : Nat) : Int))), (1, (0, w))] _ _
          have lp27 : ∀ (N27 : Nat) (mn k : Int), (0 ≤ mn ∧ mn ≤ 20 * k) → (0 ≤ k ∧ k ≤ M + 1) → M + 1 - k < (N27 : Int) → MW KX14_count Q 0 0 (pcA pgX14_count 27) [(0, (2, ((2495 : Nat) : Int))), (1, (0, w)), (2, (0, mn)), (3, (0, k))] [] hh1 := by
            intro N27
            induction N27 with
            | zero => intro mn k mb kb hm27; exfalso; omega
            | succ N27 ih27 =>
              intro mn k mb kb hm27
              refine hd_iload pkX14_count rfl rfl ?_
              refine hd_aload pkX14_count rfl rfl (Int.natCast_nonneg _) ?_
              refine hd_getI pkX14_count rfl (ghh1.cell 0 rfl).1 (ghh1.cell 0 rfl).2.1 (fun v9 ev9 rv9 => ?_)
              have qv9 : M = v9 := by rw [ev9]; exact jj.1.1.2.1.symm
              subst qv9
              refine hd_ic_gt pkX14_count rfl (fun c10 => ?_) (fun c10 => ?_)
              · skip
                refine hd_iload pkX14_count rfl rfl ?_
                refine hd_iret pkX14_count rfl ?_
                subst eQ
                refine ⟨rfl, rfl, ?_, oo, jj, ghh1⟩
                show (-1 ≤ (mn : Int) ∧ (mn : Int) ≤ 1000) ∧ (w = 0 → (mn : Int) ≤ 3)
                omega
              · skip
                refine hd_iload pkX14_count rfl rfl ?_
                have cut43 : ∀ (ca : Int), (ca = 0 ∨ ca = 1) → MW KX14_count Q 0 0 (pcA pgX14_count 43) [(0, (2, ((2495 : Nat) : Int))), (1, (0, w)), (2, (0, mn)), (3, (0, k))] [(0, ca), (0, mn)] hh1 := by
                  intro ca cav
                  refine hd_iadd pkX14_count rfl (by omega) ?_
                  refine hd_istore pkX14_count rfl rfl ?_
                  change MW _ _ _ _ _ [(2, (0, (mn + ca))), (0, (2, ((2495 : Nat) : Int))), (1, (0, w)), (3, (0, k))] _ _
                  refine hd_iload pkX14_count rfl rfl ?_
                  have cut59 : ∀ (cb : Int), (0 ≤ cb ∧ cb ≤ 12) → MW KX14_count Q 0 0 (pcA pgX14_count 59) [(0, (2, ((2495 : Nat) : Int))), (1, (0, w)), (2, (0, (mn + ca))), (3, (0, k))] [(0, cb), (0, (mn + ca))] hh1 := by
                    intro cb cbv
                    refine hd_iadd pkX14_count rfl (by omega) ?_
                    refine hd_istore pkX14_count rfl rfl ?_
                    change MW _ _ _ _ _ [(2, (0, ((mn + ca) + cb))), (0, (2, ((2495 : Nat) : Int))), (1, (0, w)), (3, (0, k))] _ _
                    refine hd_iload pkX14_count rfl rfl ?_
                    have cut94 : ∀ (cc : Int), (0 ≤ cc ∧ cc ≤ 2) → MW KX14_count Q 0 0 (pcA pgX14_count 94) [(0, (2, ((2495 : Nat) : Int))), (1, (0, w)), (2, (0, ((mn + ca) + cb))), (3, (0, k))] [(0, cc), (0, ((mn + ca) + cb))] hh1 := by
                      intro cc ccv
                      refine hd_iadd pkX14_count rfl (by omega) ?_
                      refine hd_istore pkX14_count rfl rfl ?_
                      change MW _ _ _ _ _ [(2, (0, (((mn + ca) + cb) + cc))), (0, (2, ((2495 : Nat) : Int))), (1, (0, w)), (3, (0, k))] _ _
                      refine hd_iinc (z := 1) pkX14_count rfl rfl (by omega) rfl ?_
                      change MW _ _ _ _ _ [(3, (0, (k + 1))), (2, (0, (((mn + ca) + cb) + cc))), (0, (2, ((2495 : Nat) : Int))), (1, (0, w))] _ _
                      refine hd_goto pkX14_count rfl ?_
                      refine m_sub [(0, (2, ((2495 : Nat) : Int))), (1, (0, w)), (2, (0, (((mn + ca) + cb) + cc))), (3, (0, (k + 1)))] (List.forall_mem_cons.mpr ⟨rfl, List.forall_mem_cons.mpr ⟨rfl, List.forall_mem_cons.mpr ⟨rfl, List.forall_mem_cons.mpr ⟨rfl, fun _ h => absurd h List.not_mem_nil⟩⟩⟩⟩) ?_
                      refine ih27  ((((mn + ca) + cb) + cc)) ((k + 1)) ?_ ?_ ?_
                      · omega
                      · omega
                      · omega
                    refine hd_iload pkX14_count rfl rfl ?_
                    refine hd_ipush (z := 2) pkX14_count rfl ?_
                    refine hd_ic_ne pkX14_count rfl (fun c11 => ?_) (fun c11 => ?_)
                    · skip
                      refine hd_ipush (z := 0) pkX14_count rfl ?_
                      refine m_sub [(0, (2, ((2495 : Nat) : Int))), (1, (0, w)), (2, (0, ((mn + ca) + cb))), (3, (0, k))] (List.forall_mem_cons.mpr ⟨rfl, List.forall_mem_cons.mpr ⟨rfl, List.forall_mem_cons.mpr ⟨rfl, List.forall_mem_cons.mpr ⟨rfl, fun _ h => absurd h List.not_mem_nil⟩⟩⟩⟩) ?_
                      refine cut94 (0) ?_
                      · omega
                    · skip
                      refine hd_iload pkX14_count rfl rfl ?_
                      refine hd_aload pkX14_count rfl rfl (Int.natCast_nonneg _) ?_
                      refine hd_getI pkX14_count rfl (ghh1.cell 0 rfl).1 (ghh1.cell 0 rfl).2.1 (fun v12 ev12 rv12 => ?_)
                      have qv12 : M = v12 := by rw [ev12]; exact jj.1.1.2.1.symm
                      subst qv12
                      refine hd_ic_ge pkX14_count rfl (fun c13 => ?_) (fun c13 => ?_)
                      · skip
                        refine hd_ipush (z := 0) pkX14_count rfl ?_
                        refine m_sub [(0, (2, ((2495 : Nat) : Int))), (1, (0, w)), (2, (0, ((mn + ca) + cb))), (3, (0, k))] (List.forall_mem_cons.mpr ⟨rfl, List.forall_mem_cons.mpr ⟨rfl, List.forall_mem_cons.mpr ⟨rfl, List.forall_mem_cons.mpr ⟨rfl, fun _ h => absurd h List.not_mem_nil⟩⟩⟩⟩) ?_
                        refine cut94 (0) ?_
                        · omega
                      · skip
                        have cut79 : ∀ (cd : Int), (cd = 0 ∨ cd = 1) → MW KX14_count Q 0 0 (pcA pgX14_count 79) [(0, (2, ((2495 : Nat) : Int))), (1, (0, w)), (2, (0, ((mn + ca) + cb))), (3, (0, k))] [(0, cd), (0, ((mn + ca) + cb))] hh1 := by
                          intro cd cdv
                          refine hd_aload pkX14_count rfl rfl (Int.natCast_nonneg _) ?_
                          have cut91 : ∀ (ce : Int), (ce = 0 ∨ ce = 1) → MW KX14_count Q 0 0 (pcA pgX14_count 91) [(0, (2, ((2495 : Nat) : Int))), (1, (0, w)), (2, (0, ((mn + ca) + cb))), (3, (0, k))] [(0, ce), (0, cd), (0, ((mn + ca) + cb))] hh1 := by
                            intro ce cev
                            refine hd_iadd pkX14_count rfl (by omega) ?_
                            refine hd_goto pkX14_count rfl ?_
                            refine cut94 ((cd + ce)) ?_
                            · omega
                          refine hd_getR (n := 2502) pkX14_count rfl (ghh1.cell 0 rfl).1 (ghh1.cell 0 rfl).2.1 (ghh1.ref 6 rfl) ?_
                          refine hd_ipush (z := 2) pkX14_count rfl ?_
                          refine hd_iload pkX14_count rfl rfl ?_
                          refine hd_imul pkX14_count rfl (by omega) ?_
                          refine hd_ipush (z := 1) pkX14_count rfl ?_
                          refine hd_iadd pkX14_count rfl (by omega) ?_
                          refine hd_zald (n := 6) pkX14_count rfl (ghh1.cell 7 rfl) (by omega) (by omega) (fun v14 ev14 rv14 => ?_)
                          refine hd_if_eq pkX14_count rfl (fun c15 => ?_) (fun c15 => ?_)
                          · skip
                            refine hd_ipush (z := 0) pkX14_count rfl ?_
                            refine cut91 (0) ?_
                            · omega
                          · skip
                            refine hd_ipush (z := 1) pkX14_count rfl ?_
                            refine hd_goto pkX14_count rfl ?_
                            refine cut91 (1) ?_
                            · omega
                        refine hd_aload pkX14_count rfl rfl (Int.natCast_nonneg _) ?_
                        refine hd_getR (n := 2502) pkX14_count rfl (ghh1.cell 0 rfl).1 (ghh1.cell 0 rfl).2.1 (ghh1.ref 6 rfl) ?_
                        refine hd_ipush (z := 2) pkX14_count rfl ?_
                        refine hd_iload pkX14_count rfl rfl ?_
                        refine hd_imul pkX14_count rfl (by omega) ?_
                        refine hd_zald (n := 6) pkX14_count rfl (ghh1.cell 7 rfl) (by omega) (by omega) (fun v16 ev16 rv16 => ?_)
                        refine hd_if_eq pkX14_count rfl (fun c17 => ?_) (fun c17 => ?_)
                        · skip
                          refine hd_ipush (z := 0) pkX14_count rfl ?_
                          refine m_sub [(0, (2, ((2495 : Nat) : Int))), (1, (0, w)), (2, (0, ((mn + ca) + cb))), (3, (0, k))] (List.forall_mem_cons.mpr ⟨rfl, List.forall_mem_cons.mpr ⟨rfl, List.forall_mem_cons.mpr ⟨rfl, List.forall_mem_cons.mpr ⟨rfl, fun _ h => absurd h List.not_mem_nil⟩⟩⟩⟩) ?_
                          refine cut79 (0) ?_
                          · omega
                        · skip
                          refine hd_ipush (z := 1) pkX14_count rfl ?_
                          refine hd_goto pkX14_count rfl ?_
                          refine m_sub [(0, (2, ((2495 : Nat) : Int))), (1, (0, w)), (2, (0, ((mn + ca) + cb))), (3, (0, k))] (List.forall_mem_cons.mpr ⟨rfl, List.forall_mem_cons.mpr ⟨rfl, List.forall_mem_cons.mpr ⟨rfl, List.forall_mem_cons.mpr ⟨rfl, fun _ h => absurd h List.not_mem_nil⟩⟩⟩⟩) ?_
                          refine cut79 (1) ?_
                          · omega
                  refine hd_iload pkX14_count rfl rfl ?_
                  refine hd_ipush (z := 4) pkX14_count rfl ?_
                  refine hd_ic_ne pkX14_count rfl (fun c18 => ?_) (fun c18 => ?_)
                  · skip
                    refine hd_ipush (z := 0) pkX14_count rfl ?_
                    refine m_sub [(0, (2, ((2495 : Nat) : Int))), (1, (0, w)), (2, (0, (mn + ca))), (3, (0, k))] (List.forall_mem_cons.mpr ⟨rfl, List.forall_mem_cons.mpr ⟨rfl, List.forall_mem_cons.mpr ⟨rfl, List.forall_mem_cons.mpr ⟨rfl, fun _ h => absurd h List.not_mem_nil⟩⟩⟩⟩) ?_
                    refine cut59 (0) ?_
                    · omega
                  · skip
                    refine hd_iload pkX14_count rfl rfl ?_
                    refine hd_aload pkX14_count rfl rfl (Int.natCast_nonneg _) ?_
                    refine hd_getI pkX14_count rfl (ghh1.cell 0 rfl).1 (ghh1.cell 0 rfl).2.1 (fun v19 ev19 rv19 => ?_)
                    have qv19 : M = v19 := by rw [ev19]; exact jj.1.1.2.1.symm
                    subst qv19
                    refine hd_ic_ge pkX14_count rfl (fun c20 => ?_) (fun c20 => ?_)
                    · skip
                      refine hd_ipush (z := 0) pkX14_count rfl ?_
                      refine m_sub [(0, (2, ((2495 : Nat) : Int))), (1, (0, w)), (2, (0, (mn + ca))), (3, (0, k))] (List.forall_mem_cons.mpr ⟨rfl, List.forall_mem_cons.mpr ⟨rfl, List.forall_mem_cons.mpr ⟨rfl, List.forall_mem_cons.mpr ⟨rfl, fun _ h => absurd h List.not_mem_nil⟩⟩⟩⟩) ?_
                      refine cut59 (0) ?_
                      · omega
                    · skip
                      refine hd_aload pkX14_count rfl rfl (Int.natCast_nonneg _) ?_
                      refine hd_getR (n := 2498) pkX14_count rfl (ghh1.cell 0 rfl).1 (ghh1.cell 0 rfl).2.1 (ghh1.ref 2 rfl) ?_
                      refine hd_iload pkX14_count rfl rfl ?_
                      refine hd_iald (n := 3) pkX14_count rfl (ghh1.cell 3 rfl) (by omega) (by omega) (fun v21 ev21 rv21 => ?_)
                      have r9 : 1 ≤ v21 ∧ v21 ≤ 12 := by rw [ev21]; exact (jj.1.1.2.2.1 k (by omega) (by omega)).1
                      refine hd_goto pkX14_count rfl ?_
                      refine m_sub [(0, (2, ((2495 : Nat) : Int))), (1, (0, w)), (2, (0, (mn + ca))), (3, (0, k))] (List.forall_mem_cons.mpr ⟨rfl, List.forall_mem_cons.mpr ⟨rfl, List.forall_mem_cons.mpr ⟨rfl, List.forall_mem_cons.mpr ⟨rfl, fun _ h => absurd h List.not_mem_nil⟩⟩⟩⟩) ?_
                      refine cut59 (v21) ?_
                      · omega
                refine hd_iload pkX14_count rfl rfl ?_
                refine hd_ipush (z := 3) pkX14_count rfl ?_
                refine hd_ic_ne pkX14_count rfl (fun c22 => ?_) (fun c22 => ?_)
                · skip
                  refine hd_ipush (z := 0) pkX14_count rfl ?_
                  refine cut43 (0) ?_
                  · omega
                · skip
                  refine hd_aload pkX14_count rfl rfl (Int.natCast_nonneg _) ?_
                  refine hd_getR (n := 2500) pkX14_count rfl (ghh1.cell 0 rfl).1 (ghh1.cell 0 rfl).2.1 (ghh1.ref 4 rfl) ?_
                  refine hd_iload pkX14_count rfl rfl ?_
                  refine hd_zald (n := 4) pkX14_count rfl (ghh1.cell 5 rfl) (by omega) (by omega) (fun v23 ev23 rv23 => ?_)
                  refine hd_if_eq pkX14_count rfl (fun c24 => ?_) (fun c24 => ?_)
                  · skip
                    refine hd_ipush (z := 0) pkX14_count rfl ?_
                    refine cut43 (0) ?_
                    · omega
                  · skip
                    refine hd_ipush (z := 1) pkX14_count rfl ?_
                    refine hd_goto pkX14_count rfl ?_
                    refine cut43 (1) ?_
                    · omega
          refine m_sub [(0, (2, ((2495 : Nat) : Int))), (1, (0, w)), (2, (0, 0)), (3, (0, 0))] (List.forall_mem_cons.mpr ⟨rfl, List.forall_mem_cons.mpr ⟨rfl, List.forall_mem_cons.mpr ⟨rfl, List.forall_mem_cons.mpr ⟨rfl, fun _ h => absurd h List.not_mem_nil⟩⟩⟩⟩) ?_
          refine lp27 ((M + 1 - (0)) + 1).toNat (0) (0) ?_ ?_ ?_
          · omega
          · omega
          · omega
        · skip
          refine hd_ipush (z := (-1)) pkX14_count rfl ?_
          refine hd_iret pkX14_count rfl ?_
          subst eQ
          refine ⟨rfl, rfl, ?_, oo, jj, ghh1⟩
          show (-1 ≤ ((-1) : Int) ∧ ((-1) : Int) ≤ 1000) ∧ (w = 0 → ((-1) : Int) ≤ 3)
          omega
    · skip
      refine m_sub [(0, (2, ((2495 : Nat) : Int))), (1, (0, w)), (2, (0, 0))] (List.forall_mem_cons.mpr ⟨rfl, List.forall_mem_cons.mpr ⟨rfl, List.forall_mem_cons.mpr ⟨rfl, fun _ h => absurd h List.not_mem_nil⟩⟩⟩) ?_
      refine cut10 trivial
set_option maxRecDepth 20000 in
set_option maxHeartbeats 8000000 in
theorem h_X14_unit {h : MH} {u M : Int} (j14 : J14 h M) (g : Str t14 r14 h) : MCal KX14_unit yX14_unit 0 0 [(2, ((2495 : Nat) : Int)), (0, u)] h (mRI fun v h' => (v = 0 ∨ v = 1) ∧ Only C14 h h' ∧ J14 h' M ∧ Str t14 r14 h') := by
  refine MCal.ofMW (Or.inl rfl) ⟨cp_X14, rfl⟩ (Nat.le_of_ble_eq_true rfl) ?_
  generalize eQ : (mRI fun v h' => (v = 0 ∨ v = 1) ∧ Only C14 h h' ∧ J14 h' M ∧ Str t14 r14 h' : MO → MH → Prop) = Q
  change MW KX14_unit Q 0 0 (pcA pgX14_unit 0) [(0, (2, ((2495 : Nat) : Int))), (1, (0, u))] [] h
  refine hd_locI (i := 1) rfl (fun ru => ?_)
  have oo : Only C14 h h := Only.refl _ _
  have jj := j14
  have hM := j14.1.1.1
  refine hd_aload pkX14_unit rfl rfl (Int.natCast_nonneg _) ?_
  refine hd_ipush (z := 0) pkX14_unit rfl ?_
  refine hd_putI pkX14_unit rfl (g.cell 0 rfl).1 (g.cell 0 rfl).2.1 (fun hh1 ehh1 => ?_)
  have ghh1 : Str t14 r14 hh1 := by rw [ehh1]; exact g.setF rfl
  have oo := oo.trans ((Only.wr ehh1).mono (by decide))
  have jj := jj.fld ehh1 (by decide) (by decide) (by decide)
  refine hd_iload pkX14_unit rfl rfl ?_
  refine hd_ipush (z := 32) pkX14_unit rfl ?_
  refine hd_ic_lt pkX14_unit rfl (fun c2 => ?_) (fun c2 => ?_)
  · skip
    refine hd_ipush (z := 0) pkX14_unit rfl ?_
    refine hd_zret pkX14_unit rfl (by omega) ?_
    subst eQ
    refine ⟨rfl, rfl, ?_, oo, jj, ghh1⟩
    show (0 : Int) = 0 ∨ (0 : Int) = 1
    omega
  · skip
    refine hd_iload pkX14_unit rfl rfl ?_
    refine hd_ipush (z := 126) pkX14_unit rfl ?_
    refine hd_ic_gt pkX14_unit rfl (fun c3 => ?_) (fun c3 => ?_)
    · skip
      refine hd_ipush (z := 0) pkX14_unit rfl ?_
      refine hd_zret pkX14_unit rfl (by omega) ?_
      subst eQ
      refine ⟨rfl, rfl, ?_, oo, jj, ghh1⟩
      show (0 : Int) = 0 ∨ (0 : Int) = 1
      omega
    · skip
      refine hd_aload pkX14_unit rfl rfl (Int.natCast_nonneg _) ?_
      refine hd_getI pkX14_unit rfl (ghh1.cell 0 rfl).1 (ghh1.cell 0 rfl).2.1 (fun v4 ev4 rv4 => ?_)
      obtain ⟨sn, qv4⟩ : ∃ sn : Int, sn = v4 := ⟨_, rfl⟩
      have z9 : 0 ≤ sn ∧ sn ≤ 50 := by rw [qv4, ev4]; exact jj.2.2
      have es : ga hh1 2495 10 = sn := by rw [qv4, ev4]; rfl
      subst qv4
      refine hd_ipush (z := 50) pkX14_unit rfl ?_
      refine hd_ic_ne pkX14_unit rfl (fun c5 => ?_) (fun c5 => ?_)
      · skip
        refine hd_aload pkX14_unit rfl rfl (Int.natCast_nonneg _) ?_
        refine hd_getR (n := 2504) pkX14_unit rfl (ghh1.cell 0 rfl).1 (ghh1.cell 0 rfl).2.1 (ghh1.ref 8 rfl) ?_
        refine hd_aload pkX14_unit rfl rfl (Int.natCast_nonneg _) ?_
        refine hd_getI pkX14_unit rfl (ghh1.cell 0 rfl).1 (ghh1.cell 0 rfl).2.1 (fun v6 ev6 rv6 => ?_)
        have qv6 : sn = v6 := by rw [ev6]; exact es.symm
        subst qv6
        refine hd_iload pkX14_unit rfl rfl ?_
        refine hd_iast (n := 50) pkX14_unit rfl (ghh1.cell 9 rfl) (by decide) (by omega) (by omega) (fun hh7 ehh7 => ?_)
        have ghh7 : Str t14 r14 hh7 := by rw [ehh7]; exact ghh1.setA rfl
        have oo := oo.trans ((Only.wr ehh7).mono (by decide))
        have jj := jj.cel (Only.wr ehh7) (by decide) (by decide) (by decide)
        have es := ((Only.wr ehh7).ga (d := 2495) (by decide) 10).trans es
        refine hd_aload pkX14_unit rfl rfl (Int.natCast_nonneg _) ?_
        refine hd_dup pkX14_unit rfl rfl ?_
        refine hd_getI pkX14_unit rfl (ghh7.cell 0 rfl).1 (ghh7.cell 0 rfl).2.1 (fun v8 ev8 rv8 => ?_)
        have qv8 : sn = v8 := by rw [ev8]; exact es.symm
        subst qv8
        refine hd_ipush (z := 1) pkX14_unit rfl ?_
        refine hd_iadd pkX14_unit rfl (by omega) ?_
        refine hd_putI pkX14_unit rfl (ghh7.cell 0 rfl).1 (ghh7.cell 0 rfl).2.1 (fun hh9 ehh9 => ?_)
        have ghh9 : Str t14 r14 hh9 := by rw [ehh9]; exact ghh7.setF rfl
        have oo := oo.trans ((Only.wr ehh9).mono (by decide))
        have es2 : ga hh9 2495 10 = sn + 1 := by
          rw [ehh9]
          exact (ga_sa _ _ _ (by decide) (by decide)).trans (if_pos rfl)
        have jj : J14 hh9 M := ⟨jj.1.fld ehh9 (by decide) (by decide), jj.2.1.fld ehh9 (by decide) (by decide), by rw [es2]; omega⟩
        refine hd_ipush (z := 1) pkX14_unit rfl ?_
        refine hd_zret pkX14_unit rfl (by omega) ?_
        subst eQ
        refine ⟨rfl, rfl, ?_, oo, jj, ghh9⟩
        show (1 : Int) = 0 ∨ (1 : Int) = 1
        omega
      · skip
        refine hd_ipush (z := 0) pkX14_unit rfl ?_
        refine hd_zret pkX14_unit rfl (by omega) ?_
        subst eQ
        refine ⟨rfl, rfl, ?_, oo, jj, ghh1⟩
        show (0 : Int) = 0 ∨ (0 : Int) = 1
        omega
