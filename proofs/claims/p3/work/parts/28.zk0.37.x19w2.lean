set_option maxRecDepth 20000 in
set_option maxHeartbeats 8000000 in
theorem h_X19_rules {h : MH} {cn : Int} (j19 : J19 h cn) (g : Str t19 r19 h) : MCal KX19_rules yX19_rules 0 0 [(2, ((2514 : Nat) : Int))] h (mRI fun v h' => (-101 ≤ v ∧ v ≤ 8) ∧ Only C19 h h' ∧ J19 h' cn ∧ Str t19 r19 h') := by
  refine MCal.ofMW (Or.inl rfl) ⟨cp_X19, rfl⟩ (Nat.le_of_ble_eq_true rfl) ?_
  generalize eQ : (mRI fun v h' => (-101 ≤ v ∧ v ≤ 8) ∧ Only C19 h h' ∧ J19 h' cn ∧ Str t19 r19 h' : MO → MH → Prop) = Q
  change MW KX19_rules Q 0 0 (pcA pgX19_rules 0) [(0, (2, ((2514 : Nat) : Int)))] [] h
  have oo : Only C19 h h := Only.refl _ _
  have jj := j19
  obtain ⟨z0, e24⟩ : ∃ x : Int, ga h 2514 24 = x := ⟨_, rfl⟩
  have z1 : 0 ≤ z0 ∧ z0 ≤ 100 := by rw [← e24]; exact j19.1.2.2.2.1.1
  refine hd_ipush (z := 0) pkX19_rules rfl ?_
  refine hd_istore pkX19_rules rfl rfl ?_
  change MW _ _ _ _ _ [(1, (0, 0)), (0, (2, ((2514 : Nat) : Int)))] _ _
  refine hd_ipush (z := 0) pkX19_rules rfl ?_
  refine hd_istore pkX19_rules rfl rfl ?_
  change MW _ _ _ _ _ [(2, (0, 0)), (1, (0, 0)), (0, (2, ((2514 : Nat) : Int)))] _ _
  refine hd_ipush (z := 0) pkX19_rules rfl ?_
  refine hd_istore pkX19_rules rfl rfl ?_
  change MW _ _ _ _ _ [(3, (0, 0)), (2, (0, 0)), (1, (0, 0)), (0, (2, ((2514 : Nat) : Int)))] _ _
  refine hd_ipush (z := 1) pkX19_rules rfl ?_
  refine hd_istore pkX19_rules rfl rfl ?_
  change MW _ _ _ _ _ [(4, (0, 1)), (3, (0, 0)), (2, (0, 0)), (1, (0, 0)), (0, (2, ((2514 : Nat) : Int)))] _ _
  refine hd_ipush (z := 1) pkX19_rules rfl ?_
  refine hd_istore pkX19_rules rfl rfl ?_
  change MW _ _ _ _ _ [(5, (0, 1)), (4, (0, 1)), (3, (0, 0)), (2, (0, 0)), (1, (0, 0)), (0, (2, ((2514 : Nat) : Int)))] _ _
  refine hd_ipush (z := 1) pkX19_rules rfl ?_
  have cut176 : ∀ (ka nu ic bz gd mo : Int) (hj176 : MH), Str t19 r19 hj176 → (Only C19 h hj176) → (J19 hj176 cn) → (ga hj176 2514 24 = z0) → (0 ≤ ka ∧ ka ≤ z0) → (0 ≤ nu ∧ nu ≤ 7) → (gd = 0 ∨ gd = 1) → MW KX19_rules Q 0 0 (pcA pgX19_rules 176) [(0, (2, ((2514 : Nat) : Int))), (1, (0, ka)), (2, (0, nu)), (3, (0, ic)), (4, (0, bz)), (5, (0, gd)), (6, (0, mo))] [] hj176 := by
    intro ka nu ic bz gd mo hj176 gc176 oo jj e24 k0 n0 gd0
    have cut185 : ∀ (al9 : Int), (al9 = 0 ∨ al9 = 1) → MW KX19_rules Q 0 0 (pcA pgX19_rules 185) [(0, (2, ((2514 : Nat) : Int))), (1, (0, ka)), (2, (0, nu)), (3, (0, ic)), (4, (0, bz)), (5, (0, gd)), (6, (0, mo))] [(0, al9)] hj176 := by
      intro al9 alv
      refine hd_istore pkX19_rules rfl rfl ?_
      change MW _ _ _ _ _ [(7, (0, al9)), (0, (2, ((2514 : Nat) : Int))), (1, (0, ka)), (2, (0, nu)), (3, (0, ic)), (4, (0, bz)), (5, (0, gd)), (6, (0, mo))] _ _
      refine hd_aload pkX19_rules rfl rfl (Int.natCast_nonneg _) ?_
      refine hd_ipush (z := 0) pkX19_rules rfl ?_
      refine hd_putI pkX19_rules rfl (gc176.cell 0 rfl).1 (gc176.cell 0 rfl).2.1 (fun hh1 ehh1 => ?_)
      have ghh1 : Str t19 r19 hh1 := by rw [ehh1]; exact gc176.setF rfl
      have oo := oo.trans ((Only.wr ehh1).mono (by decide))
      have jj := jj.tx24 ehh1 (by decide)
      refine hd_iload pkX19_rules rfl rfl ?_
      refine hd_if_ne pkX19_rules rfl (fun c2 => ?_) (fun c2 => ?_)
      · skip
        refine hd_aload pkX19_rules rfl rfl (Int.natCast_nonneg _) ?_
        refine hd_iload pkX19_rules rfl rfl ?_
        refine hd_ipush (z := 1) pkX19_rules rfl ?_
        refine hd_iadd pkX19_rules rfl (by omega) ?_
        refine hd_putI pkX19_rules rfl (ghh1.cell 0 rfl).1 (ghh1.cell 0 rfl).2.1 (fun hh3 ehh3 => ?_)
        have ghh3 : Str t19 r19 hh3 := by rw [ehh3]; exact ghh1.setF rfl
        have oo := oo.trans ((Only.wr ehh3).mono (by decide))
        have jj := jj.tx26 ehh3 ⟨by omega, by omega⟩
        refine hd_ipush (z := 0) pkX19_rules rfl ?_
        refine hd_istore pkX19_rules rfl rfl ?_
        change MW _ _ _ _ _ [(8, (0, 0)), (7, (0, al9)), (0, (2, ((2514 : Nat) : Int))), (1, (0, ka)), (2, (0, nu)), (3, (0, ic)), (4, (0, bz)), (5, (0, gd)), (6, (0, mo))] _ _
        have lp202 : ∀ (N202 : Nat) (i8 : Int) (h8 : MH), Str t19 r19 h8 → (Only C19 h h8) → (J19 h8 cn) → (0 ≤ i8 ∧ i8 ≤ 8) → (8 : Int) - i8 < (N202 : Int) → MW KX19_rules Q 0 0 (pcA pgX19_rules 202) [(0, (2, ((2514 : Nat) : Int))), (1, (0, ka)), (2, (0, nu)), (3, (0, ic)), (4, (0, bz)), (5, (0, gd)), (6, (0, mo)), (7, (0, al9)), (8, (0, i8))] [] h8 := by
          intro N202
          induction N202 with
          | zero => intro i8 h8 g202 oo jj i8b hm202; exfalso; omega
          | succ N202 ih202 =>
            intro i8 h8 g202 oo jj i8b hm202
            refine hd_iload pkX19_rules rfl rfl ?_
            refine hd_ipush (z := 8) pkX19_rules rfl ?_
            refine hd_ic_ge pkX19_rules rfl (fun c4 => ?_) (fun c4 => ?_)
            · skip
              refine hd_ipush (z := 0) pkX19_rules rfl ?_
              refine hd_istore pkX19_rules rfl rfl ?_
              change MW _ _ _ _ _ [(8, (0, 0)), (0, (2, ((2514 : Nat) : Int))), (1, (0, ka)), (2, (0, nu)), (3, (0, ic)), (4, (0, bz)), (5, (0, gd)), (6, (0, mo)), (7, (0, al9))] _ _
              have lp217 : ∀ (N217 : Nat) (i9 : Int) (h9 : MH), Str t19 r19 h9 → (Only C19 h h9) → (J19 h9 cn) → (0 ≤ i9 ∧ i9 ≤ 144) → (144 : Int) - i9 < (N217 : Int) → MW KX19_rules Q 0 0 (pcA pgX19_rules 217) [(0, (2, ((2514 : Nat) : Int))), (1, (0, ka)), (2, (0, nu)), (3, (0, ic)), (4, (0, bz)), (5, (0, gd)), (6, (0, mo)), (7, (0, al9)), (8, (0, i9))] [] h9 := by
                intro N217
                induction N217 with
                | zero => intro i9 h9 g217 oo jj i9b hm217; exfalso; omega
                | succ N217 ih217 =>
                  intro i9 h9 g217 oo jj i9b hm217
                  refine hd_iload pkX19_rules rfl rfl ?_
                  refine hd_ipush (z := 144) pkX19_rules rfl ?_
                  refine hd_ic_ge pkX19_rules rfl (fun c5 => ?_) (fun c5 => ?_)
                  · skip
                    refine hd_aload pkX19_rules rfl rfl (Int.natCast_nonneg _) ?_
                    refine hd_getI pkX19_rules rfl (g217.cell 0 rfl).1 (g217.cell 0 rfl).2.1 (fun v6 ev6 rv6 => ?_)
                    have c9 : 0 ≤ v6 ∧ v6 ≤ 8 := by rw [ev6]; exact jj.1.2.2.2.1.2.1
                    refine hd_iret pkX19_rules rfl ?_
                    subst eQ
                    refine ⟨rfl, rfl, ?_, oo, jj, g217⟩
                    show -101 ≤ (v6 : Int) ∧ (v6 : Int) ≤ 8
                    omega
                  · skip
                    refine hd_aload pkX19_rules rfl rfl (Int.natCast_nonneg _) ?_
                    refine hd_getR (n := 2529) pkX19_rules rfl (g217.cell 0 rfl).1 (g217.cell 0 rfl).2.1 (g217.ref 14 rfl) ?_
                    refine hd_iload pkX19_rules rfl rfl ?_
                    refine hd_aload pkX19_rules rfl rfl (Int.natCast_nonneg _) ?_
                    refine hd_getR (n := 2531) pkX19_rules rfl (g217.cell 0 rfl).1 (g217.cell 0 rfl).2.1 (g217.ref 16 rfl) ?_
                    refine hd_iload pkX19_rules rfl rfl ?_
                    refine hd_iald (n := 144) pkX19_rules rfl (g217.cell 17 rfl) (by omega) (by omega) (fun v7 ev7 rv7 => ?_)
                    have t9 : -9999 ≤ v7 ∧ v7 ≤ 9999 := by rw [ev7]; exact (jj.1.2.2.2.1.2.2.2 _ (by omega) (by omega)).2
                    refine hd_iast (n := 144) pkX19_rules rfl (g217.cell 15 rfl) (by decide) (by omega) (by omega) (fun hh8 ehh8 => ?_)
                    have ghh8 : Str t19 r19 hh8 := by rw [ehh8]; exact g217.setA rfl
                    have oo := oo.trans ((Only.wr ehh8).mono (by decide))
                    have jj := jj.tx ehh8 (by omega) (Or.inr ⟨by decide, by omega, by omega⟩)
                    refine hd_iinc (z := 1) pkX19_rules rfl rfl (by omega) rfl ?_
                    change MW _ _ _ _ _ [(8, (0, (i9 + 1))), (0, (2, ((2514 : Nat) : Int))), (1, (0, ka)), (2, (0, nu)), (3, (0, ic)), (4, (0, bz)), (5, (0, gd)), (6, (0, mo)), (7, (0, al9))] _ _
                    refine hd_goto pkX19_rules rfl ?_
                    refine m_sub [(0, (2, ((2514 : Nat) : Int))), (1, (0, ka)), (2, (0, nu)), (3, (0, ic)), (4, (0, bz)), (5, (0, gd)), (6, (0, mo)), (7, (0, al9)), (8, (0, (i9 + 1)))] (List.forall_mem_cons.mpr ⟨rfl, List.forall_mem_cons.mpr ⟨rfl, List.forall_mem_cons.mpr ⟨rfl, List.forall_mem_cons.mpr ⟨rfl, List.forall_mem_cons.mpr ⟨rfl, List.forall_mem_cons.mpr ⟨rfl, List.forall_mem_cons.mpr ⟨rfl, List.forall_mem_cons.mpr ⟨rfl, List.forall_mem_cons.mpr ⟨rfl, fun _ h => absurd h List.not_mem_nil⟩⟩⟩⟩⟩⟩⟩⟩⟩) ?_
                    refine ih217  ((i9 + 1)) hh8 ghh8 ?_ ?_ ?_ ?_
                    · exact oo
                    · exact jj
                    · omega
                    · omega
              refine m_sub [(0, (2, ((2514 : Nat) : Int))), (1, (0, ka)), (2, (0, nu)), (3, (0, ic)), (4, (0, bz)), (5, (0, gd)), (6, (0, mo)), (7, (0, al9)), (8, (0, 0))] (List.forall_mem_cons.mpr ⟨rfl, List.forall_mem_cons.mpr ⟨rfl, List.forall_mem_cons.mpr ⟨rfl, List.forall_mem_cons.mpr ⟨rfl, List.forall_mem_cons.mpr ⟨rfl, List.forall_mem_cons.mpr ⟨rfl, List.forall_mem_cons.mpr ⟨rfl, List.forall_mem_cons.mpr ⟨rfl, List.forall_mem_cons.mpr ⟨rfl, fun _ h => absurd h List.not_mem_nil⟩⟩⟩⟩⟩⟩⟩⟩⟩) ?_
              refine lp217 (((144 : Int) - (0)) + 1).toNat (0) h8 g202 ?_ ?_ ?_ ?_
              · exact oo
              · exact jj
              · omega
              · omega
            · skip
              refine hd_aload pkX19_rules rfl rfl (Int.natCast_nonneg _) ?_
              refine hd_getR (n := 2528) pkX19_rules rfl (g202.cell 0 rfl).1 (g202.cell 0 rfl).2.1 (g202.ref 13 rfl) ?_
              refine hd_iload pkX19_rules rfl rfl ?_
              refine hd_aload pkX19_rules rfl rfl (Int.natCast_nonneg _) ?_
              refine hd_getR (n := 2530) pkX19_rules rfl (g202.cell 0 rfl).1 (g202.cell 0 rfl).2.1 (g202.ref 15 rfl) ?_
              refine hd_iload pkX19_rules rfl rfl ?_
              refine hd_iald (n := 8) pkX19_rules rfl (g202.cell 16 rfl) (by omega) (by omega) (fun v9 ev9 rv9 => ?_)
              have t9 : 0 ≤ v9 ∧ v9 ≤ 6 := by rw [ev9]; exact (jj.1.2.2.2.1.2.2.1 _ (by omega) (by omega)).2
              refine hd_iast (n := 8) pkX19_rules rfl (g202.cell 14 rfl) (by decide) (by omega) (by omega) (fun hh10 ehh10 => ?_)
              have ghh10 : Str t19 r19 hh10 := by rw [ehh10]; exact g202.setA rfl
              have oo := oo.trans ((Only.wr ehh10).mono (by decide))
              have jj := jj.tx ehh10 (by omega) (Or.inl ⟨by decide, by omega, by omega⟩)
              refine hd_iinc (z := 1) pkX19_rules rfl rfl (by omega) rfl ?_
              change MW _ _ _ _ _ [(8, (0, (i8 + 1))), (0, (2, ((2514 : Nat) : Int))), (1, (0, ka)), (2, (0, nu)), (3, (0, ic)), (4, (0, bz)), (5, (0, gd)), (6, (0, mo)), (7, (0, al9))] _ _
              refine hd_goto pkX19_rules rfl ?_
              refine m_sub [(0, (2, ((2514 : Nat) : Int))), (1, (0, ka)), (2, (0, nu)), (3, (0, ic)), (4, (0, bz)), (5, (0, gd)), (6, (0, mo)), (7, (0, al9)), (8, (0, (i8 + 1)))] (List.forall_mem_cons.mpr ⟨rfl, List.forall_mem_cons.mpr ⟨rfl, List.forall_mem_cons.mpr ⟨rfl, List.forall_mem_cons.mpr ⟨rfl, List.forall_mem_cons.mpr ⟨rfl, List.forall_mem_cons.mpr ⟨rfl, List.forall_mem_cons.mpr ⟨rfl, List.forall_mem_cons.mpr ⟨rfl, List.forall_mem_cons.mpr ⟨rfl, fun _ h => absurd h List.not_mem_nil⟩⟩⟩⟩⟩⟩⟩⟩⟩) ?_
              refine ih202  ((i8 + 1)) hh10 ghh10 ?_ ?_ ?_ ?_
              · exact oo
              · exact jj
              · omega
              · omega
        refine m_sub [(0, (2, ((2514 : Nat) : Int))), (1, (0, ka)), (2, (0, nu)), (3, (0, ic)), (4, (0, bz)), (5, (0, gd)), (6, (0, mo)), (7, (0, al9)), (8, (0, 0))] (List.forall_mem_cons.mpr ⟨rfl, List.forall_mem_cons.mpr ⟨rfl, List.forall_mem_cons.mpr ⟨rfl, List.forall_mem_cons.mpr ⟨rfl, List.forall_mem_cons.mpr ⟨rfl, List.forall_mem_cons.mpr ⟨rfl, List.forall_mem_cons.mpr ⟨rfl, List.forall_mem_cons.mpr ⟨rfl, List.forall_mem_cons.mpr ⟨rfl, fun _ h => absurd h List.not_mem_nil⟩⟩⟩⟩⟩⟩⟩⟩⟩) ?_
        refine lp202 (((8 : Int) - (0)) + 1).toNat (0) hh3 ghh3 ?_ ?_ ?_ ?_
        · exact oo
        · exact jj
        · omega
        · omega
      · skip
        refine hd_ipush (z := (-1)) pkX19_rules rfl ?_
        refine hd_iload pkX19_rules rfl rfl ?_
        refine hd_isub pkX19_rules rfl (by omega) ?_
        refine hd_iret pkX19_rules rfl ?_
        subst eQ
        refine ⟨rfl, rfl, ?_, oo, jj, ghh1⟩
        show -101 ≤ (((-1) - ka) : Int) ∧ (((-1) - ka) : Int) ≤ 8
        omega
    refine hd_iload pkX19_rules rfl rfl ?_
    refine hd_if_eq pkX19_rules rfl (fun c11 => ?_) (fun c11 => ?_)
    · skip
      refine hd_ipush (z := 0) pkX19_rules rfl ?_
      refine cut185 (0) ?_
      · omega
    · skip
      refine hd_iload pkX19_rules rfl rfl ?_
      refine hd_aload pkX19_rules rfl rfl (Int.natCast_nonneg _) ?_
      refine hd_getI pkX19_rules rfl (gc176.cell 0 rfl).1 (gc176.cell 0 rfl).2.1 (fun v12 ev12 rv12 => ?_)
      have qv12 : z0 = v12 := by rw [ev12]; exact e24.symm
      subst qv12
      refine hd_ic_ne pkX19_rules rfl (fun c13 => ?_) (fun c13 => ?_)
      · skip
        refine hd_ipush (z := 0) pkX19_rules rfl ?_
        refine cut185 (0) ?_
        · omega
      · skip
        refine hd_ipush (z := 1) pkX19_rules rfl ?_
        refine hd_goto pkX19_rules rfl ?_
        refine cut185 (1) ?_
        · omega
  refine hd_istore pkX19_rules rfl rfl ?_
  change MW _ _ _ _ _ [(6, (0, 1)), (5, (0, 1)), (4, (0, 1)), (3, (0, 0)), (2, (0, 0)), (1, (0, 0)), (0, (2, ((2514 : Nat) : Int)))] _ _
  have lp12 : ∀ (N12 : Nat) (ka nu ic bz gd mo : Int) (hm : MH), Str t19 r19 hm → (Only C19 h hm) → (J19 hm cn) → (ga hm 2514 24 = z0) → (0 ≤ ka ∧ ka ≤ z0) → (0 ≤ nu ∧ nu ≤ 7) → (0 ≤ ic ∧ ic ≤ 6) → (bz = 1 ∨ bz = -1) → ((gd = 0 ∨ gd = 1) ∧ (mo = 0 ∨ mo = 1)) → (mo = 0 ∨ ic ≤ 5) → z0 - ka + gd < (N12 : Int) → MW KX19_rules Q 0 0 (pcA pgX19_rules 12) [(0, (2, ((2514 : Nat) : Int))), (1, (0, ka)), (2, (0, nu)), (3, (0, ic)), (4, (0, bz)), (5, (0, gd)), (6, (0, mo))] [] hm := by
    intro N12
    induction N12 with
    | zero => intro ka nu ic bz gd mo hm g12 oo jj e24 k0 n0 i0 b0 gm mi hm12; exfalso; omega
    | succ N12 ih12 =>
      intro ka nu ic bz gd mo hm g12 oo jj e24 k0 n0 i0 b0 gm mi hm12
      refine hd_iload pkX19_rules rfl rfl ?_
      refine hd_if_eq pkX19_rules rfl (fun c14 => ?_) (fun c14 => ?_)
      · skip
        refine cut176 (ka) (nu) (ic) (bz) (gd) (mo) hm g12 ?_ ?_ ?_ ?_ ?_ ?_
        · exact oo
        · exact jj
        · exact e24
        · omega
        · omega
        · omega
      · skip
        refine hd_iload pkX19_rules rfl rfl ?_
        refine hd_if_eq pkX19_rules rfl (fun c15 => ?_) (fun c15 => ?_)
        · skip
          refine cut176 (ka) (nu) (ic) (bz) (gd) (mo) hm g12 ?_ ?_ ?_ ?_ ?_ ?_
          · exact oo
          · exact jj
          · exact e24
          · omega
          · omega
          · omega
        · skip
          refine hd_iload pkX19_rules rfl rfl ?_
          refine hd_istore pkX19_rules rfl rfl ?_
          change MW _ _ _ _ _ [(7, (0, ka)), (0, (2, ((2514 : Nat) : Int))), (1, (0, ka)), (2, (0, nu)), (3, (0, ic)), (4, (0, bz)), (5, (0, gd)), (6, (0, mo))] _ _
          refine hd_ipush (z := 0) pkX19_rules rfl ?_
          have cut47 : ∀ (k vv : Int), (ka ≤ k ∧ k ≤ z0) → ((k = ka ∧ vv = 0) ∨ (k = ka + 1 ∧ 0 ≤ vv ∧ vv ≤ 9) ∨ (k = ka + 2 ∧ 0 ≤ vv ∧ vv ≤ 99) ∨ (k = ka + 3 ∧ 0 ≤ vv ∧ vv ≤ 999) ∨ (k = ka + 4 ∧ 0 ≤ vv ∧ vv ≤ 9999)) → MW KX19_rules Q 0 0 (pcA pgX19_rules 47) [(0, (2, ((2514 : Nat) : Int))), (1, (0, k)), (2, (0, nu)), (3, (0, ic)), (4, (0, bz)), (5, (0, gd)), (6, (0, mo)), (7, (0, ka)), (8, (0, vv))] [] hm := by
            intro k vv k1 vb
            refine hd_iload pkX19_rules rfl rfl ?_
            have cut68 : ∀ (gg9 : Int), (gg9 = 0 ∨ (gg9 = 1 ∧ ka < k ∧ (Sg9 hm k = 87 ∨ Sg9 hm k = 80 ∨ Sg9 hm k = 76))) → MW KX19_rules Q 0 0 (pcA pgX19_rules 68) [(0, (2, ((2514 : Nat) : Int))), (1, (0, k)), (2, (0, nu)), (3, (0, ic)), (4, (0, bz)), (5, (0, gd)), (6, (0, mo)), (7, (0, ka)), (8, (0, vv))] [(0, gg9)] hm := by
              intro gg9 ggv
              refine hd_istore pkX19_rules rfl rfl ?_
              change MW _ _ _ _ _ [(5, (0, gg9)), (0, (2, ((2514 : Nat) : Int))), (1, (0, k)), (2, (0, nu)), (3, (0, ic)), (4, (0, bz)), (6, (0, mo)), (7, (0, ka)), (8, (0, vv))] _ _
              refine hd_iload pkX19_rules rfl rfl ?_
              refine hd_if_eq pkX19_rules rfl (fun c16 => ?_) (fun c16 => ?_)
              · skip
                refine hd_goto pkX19_rules rfl ?_
                refine m_sub [(0, (2, ((2514 : Nat) : Int))), (1, (0, k)), (2, (0, nu)), (3, (0, ic)), (4, (0, bz)), (5, (0, gg9)), (6, (0, mo))] (List.forall_mem_cons.mpr ⟨rfl, List.forall_mem_cons.mpr ⟨rfl, List.forall_mem_cons.mpr ⟨rfl, List.forall_mem_cons.mpr ⟨rfl, List.forall_mem_cons.mpr ⟨rfl, List.forall_mem_cons.mpr ⟨rfl, List.forall_mem_cons.mpr ⟨rfl, fun _ h => absurd h List.not_mem_nil⟩⟩⟩⟩⟩⟩⟩) ?_
                refine ih12  (k) (nu) (ic) (bz) (gg9) (mo) hm g12 ?_ ?_ ?_ ?_ ?_ ?_ ?_ ?_ ?_ ?_
                · exact oo
                · exact jj
                · exact e24
                · omega
                · omega
                · omega
                · omega
                · omega
                · omega
                · omega
              · skip
                have sv : (Sg9 hm k = 87 ∨ Sg9 hm k = 80 ∨ Sg9 hm k = 76) := by omega
                refine hd_ipush (z := 18) pkX19_rules rfl ?_
                refine hd_iload pkX19_rules rfl rfl ?_
                refine hd_imul pkX19_rules rfl (by omega) ?_
                refine hd_ipush (z := 3) pkX19_rules rfl ?_
                refine hd_iload pkX19_rules rfl rfl ?_
                refine hd_imul pkX19_rules rfl (by omega) ?_
                refine hd_iadd pkX19_rules rfl (by omega) ?_
                refine hd_istore pkX19_rules rfl rfl ?_
                change MW _ _ _ _ _ [(9, (0, ((18 * nu) + (3 * ic)))), (5, (0, gg9)), (0, (2, ((2514 : Nat) : Int))), (1, (0, k)), (2, (0, nu)), (3, (0, ic)), (4, (0, bz)), (6, (0, mo)), (7, (0, ka)), (8, (0, vv))] _ _
                refine hd_aload pkX19_rules rfl rfl (Int.natCast_nonneg _) ?_
                refine hd_getR (n := 2531) pkX19_rules rfl (g12.cell 0 rfl).1 (g12.cell 0 rfl).2.1 (g12.ref 16 rfl) ?_
                refine hd_iload pkX19_rules rfl rfl ?_
                refine hd_iload pkX19_rules rfl rfl ?_
                refine hd_iast (n := 144) pkX19_rules rfl (g12.cell 17 rfl) (by decide) (by omega) (by omega) (fun hh17 ehh17 => ?_)
                have ghh17 : Str t19 r19 hh17 := by rw [ehh17]; exact g12.setA rfl
                have oo := oo.trans ((Only.wr ehh17).mono (by decide))
                have sgE := fun (x : Int) => Sg9.only (Only.wr ehh17) (by decide) x
                have sv : Sg9 hh17 k = 87 ∨ Sg9 hh17 k = 80 ∨ Sg9 hh17 k = 76 := by rw [sgE]; exact sv
                have e24 := ((Only.wr ehh17).ga (d := 2514) (by decide) 24).trans e24
                have jj := jj.tx ehh17 (by omega) (Or.inr ⟨by decide, by omega, by omega⟩)
                refine hd_aload pkX19_rules rfl rfl (Int.natCast_nonneg _) ?_
                refine hd_getR (n := 2531) pkX19_rules rfl (ghh17.cell 0 rfl).1 (ghh17.cell 0 rfl).2.1 (ghh17.ref 16 rfl) ?_
                refine hd_iload pkX19_rules rfl rfl ?_
                refine hd_ipush (z := 1) pkX19_rules rfl ?_
                refine hd_iadd pkX19_rules rfl (by omega) ?_
                refine hd_iload pkX19_rules rfl rfl ?_
                refine hd_iast (n := 144) pkX19_rules rfl (ghh17.cell 17 rfl) (by decide) (by omega) (by omega) (fun hh18 ehh18 => ?_)
                have ghh18 : Str t19 r19 hh18 := by rw [ehh18]; exact ghh17.setA rfl
                have oo := oo.trans ((Only.wr ehh18).mono (by decide))
                have sgE := fun (x : Int) => Sg9.only (Only.wr ehh18) (by decide) x
                have sv : Sg9 hh18 k = 87 ∨ Sg9 hh18 k = 80 ∨ Sg9 hh18 k = 76 := by rw [sgE]; exact sv
                have e24 := ((Only.wr ehh18).ga (d := 2514) (by decide) 24).trans e24
                have jj := jj.tx ehh18 (by omega) (Or.inr ⟨by decide, by omega, by omega⟩)
                refine hd_aload pkX19_rules rfl rfl (Int.natCast_nonneg _) ?_
                refine hd_getR (n := 2531) pkX19_rules rfl (ghh18.cell 0 rfl).1 (ghh18.cell 0 rfl).2.1 (ghh18.ref 16 rfl) ?_
                refine hd_iload pkX19_rules rfl rfl ?_
                refine hd_ipush (z := 2) pkX19_rules rfl ?_
                refine hd_iadd pkX19_rules rfl (by omega) ?_
                refine hd_aload pkX19_rules rfl rfl (Int.natCast_nonneg _) ?_
                refine hd_iload pkX19_rules rfl rfl ?_
                refine hd_callV pkX19_rules rfl (q := (KX19_sign, yX19_sign, 19, 1, 0)) rfl rfl rfl (As := [(0, k)]) (rest := [(0, (((18 * nu) + (3 * ic)) + 2)), (2, ((2531 : Nat) : Int))]) (c := 2514) rfl rfl (Nat.le_of_ble_eq_true rfl) (ghh18.cell 0 rfl).1 (ghh18.cell 0 rfl).2.1 (h_X19_sign (by omega) jj.1 ghh18) (hd_bI (fun w19 hc20 psg => ?_))
                obtain ⟨psg, ehc20⟩ := psg
                replace ehc20 := ehc20.symm
                subst ehc20
                subst psg
                have sl : Sg9 hh18 k = 0 ∨ k < z0 := by
                  by_cases q : k < z0
                  · exact Or.inr q
                  · exact Or.inl (by unfold Sg9; rw [e24]; exact if_neg q)
                refine hd_iast (n := 144) pkX19_rules rfl (ghh18.cell 17 rfl) (by decide) (by omega) (by omega) (fun hh21 ehh21 => ?_)
                have ghh21 : Str t19 r19 hh21 := by rw [ehh21]; exact ghh18.setA rfl
                have kz : k < z0 := by omega
                have oo := oo.trans ((Only.wr ehh21).mono (by decide))
                have sgE := fun (x : Int) => Sg9.only (Only.wr ehh21) (by decide) x
                have sv : Sg9 hh21 k = 87 ∨ Sg9 hh21 k = 80 ∨ Sg9 hh21 k = 76 := by rw [sgE]; exact sv
                have e24 := ((Only.wr ehh21).ga (d := 2514) (by decide) 24).trans e24
                have jj := jj.tx ehh21 (by omega) (Or.inr ⟨by decide, by omega, by omega⟩)
                refine hd_iinc (z := 1) pkX19_rules rfl rfl (by omega) rfl ?_
                change MW _ _ _ _ _ [(3, (0, (ic + 1))), (9, (0, ((18 * nu) + (3 * ic)))), (5, (0, gg9)), (0, (2, ((2514 : Nat) : Int))), (1, (0, k)), (2, (0, nu)), (4, (0, bz)), (6, (0, mo)), (7, (0, ka)), (8, (0, vv))] _ _
                refine hd_iinc (z := 1) pkX19_rules rfl rfl (by omega) rfl ?_
                change MW _ _ _ _ _ [(1, (0, (k + 1))), (3, (0, (ic + 1))), (9, (0, ((18 * nu) + (3 * ic)))), (5, (0, gg9)), (0, (2, ((2514 : Nat) : Int))), (2, (0, nu)), (4, (0, bz)), (6, (0, mo)), (7, (0, ka)), (8, (0, vv))] _ _
                refine hd_aload pkX19_rules rfl rfl (Int.natCast_nonneg _) ?_
                refine hd_getR (n := 2530) pkX19_rules rfl (ghh21.cell 0 rfl).1 (ghh21.cell 0 rfl).2.1 (ghh21.ref 15 rfl) ?_
                refine hd_iload pkX19_rules rfl rfl ?_
                refine hd_iload pkX19_rules rfl rfl ?_
                refine hd_iast (n := 8) pkX19_rules rfl (ghh21.cell 16 rfl) (by decide) (by omega) (by omega) (fun hh22 ehh22 => ?_)
                have ghh22 : Str t19 r19 hh22 := by rw [ehh22]; exact ghh21.setA rfl
                have oo := oo.trans ((Only.wr ehh22).mono (by decide))
                have e24 := ((Only.wr ehh22).ga (d := 2514) (by decide) 24).trans e24
                have jj := jj.tx ehh22 (by omega) (Or.inl ⟨by decide, by omega, by omega⟩)
                have cut123 : ∀ (on : Int), (on = 0 ∨ (on = 1 ∧ (k + 1) < z0 ∧ (ic + 1) < 6)) → MW KX19_rules Q 0 0 (pcA pgX19_rules 123) [(0, (2, ((2514 : Nat) : Int))), (1, (0, (k + 1))), (2, (0, nu)), (3, (0, (ic + 1))), (4, (0, bz)), (5, (0, gg9)), (6, (0, mo)), (7, (0, ka)), (8, (0, vv)), (9, (0, ((18 * nu) + (3 * ic))))] [(0, on)] hh22 := by
                  intro on onv
                  refine hd_istore pkX19_rules rfl rfl ?_
                  change MW _ _ _ _ _ [(10, (0, on)), (0, (2, ((2514 : Nat) : Int))), (1, (0, (k + 1))), (2, (0, nu)), (3, (0, (ic + 1))), (4, (0, bz)), (5, (0, gg9)), (6, (0, mo)), (7, (0, ka)), (8, (0, vv)), (9, (0, ((18 * nu) + (3 * ic))))] _ _
                  have cut135 : ∀ (nx : Int), (nx = 0 ∨ (nx = 1 ∧ (k + 1) < z0 ∧ nu < 7)) → MW KX19_rules Q 0 0 (pcA pgX19_rules 135) [(0, (2, ((2514 : Nat) : Int))), (1, (0, (k + 1))), (2, (0, nu)), (3, (0, (ic + 1))), (4, (0, bz)), (5, (0, gg9)), (6, (0, mo)), (7, (0, ka)), (8, (0, vv)), (9, (0, ((18 * nu) + (3 * ic)))), (10, (0, on))] [(0, nx)] hh22 := by
                    intro nx nxv
                    refine hd_istore pkX19_rules rfl rfl ?_
                    change MW _ _ _ _ _ [(11, (0, nx)), (0, (2, ((2514 : Nat) : Int))), (1, (0, (k + 1))), (2, (0, nu)), (3, (0, (ic + 1))), (4, (0, bz)), (5, (0, gg9)), (6, (0, mo)), (7, (0, ka)), (8, (0, vv)), (9, (0, ((18 * nu) + (3 * ic)))), (10, (0, on))] _ _
                    have cut144 : ∀ (by9 : Int), (by9 = 1 ∨ by9 = -1) → MW KX19_rules Q 0 0 (pcA pgX19_rules 144) [(0, (2, ((2514 : Nat) : Int))), (1, (0, (k + 1))), (2, (0, nu)), (3, (0, (ic + 1))), (4, (0, bz)), (5, (0, gg9)), (6, (0, mo)), (7, (0, ka)), (8, (0, vv)), (9, (0, ((18 * nu) + (3 * ic)))), (10, (0, on)), (11, (0, nx))] [(0, by9)] hh22 := by
                      intro by9 byv
                      refine hd_istore pkX19_rules rfl rfl ?_
                      change MW _ _ _ _ _ [(4, (0, by9)), (0, (2, ((2514 : Nat) : Int))), (1, (0, (k + 1))), (2, (0, nu)), (3, (0, (ic + 1))), (5, (0, gg9)), (6, (0, mo)), (7, (0, ka)), (8, (0, vv)), (9, (0, ((18 * nu) + (3 * ic)))), (10, (0, on)), (11, (0, nx))] _ _
                      refine hd_iload pkX19_rules rfl rfl ?_
                      have cut151 : ∀ (an : Int), ((an = 1 ∧ nx = 1) ∨ (an = 0 ∧ nx = 0)) → MW KX19_rules Q 0 0 (pcA pgX19_rules 151) [(0, (2, ((2514 : Nat) : Int))), (1, (0, (k + 1))), (2, (0, nu)), (3, (0, (ic + 1))), (4, (0, by9)), (5, (0, gg9)), (6, (0, mo)), (7, (0, ka)), (8, (0, vv)), (9, (0, ((18 * nu) + (3 * ic)))), (10, (0, on)), (11, (0, nx))] [(0, an), (0, nu)] hh22 := by
                        intro an anv
                        refine hd_iadd pkX19_rules rfl (by omega) ?_
                        refine hd_istore pkX19_rules rfl rfl ?_
                        change MW _ _ _ _ _ [(2, (0, (nu + an))), (0, (2, ((2514 : Nat) : Int))), (1, (0, (k + 1))), (3, (0, (ic + 1))), (4, (0, by9)), (5, (0, gg9)), (6, (0, mo)), (7, (0, ka)), (8, (0, vv)), (9, (0, ((18 * nu) + (3 * ic)))), (10, (0, on)), (11, (0, nx))] _ _
                        have cut158 : ∀ (ic2 : Int), ((nx = 1 ∧ ic2 = 0) ∨ (nx = 0 ∧ ic2 = (ic + 1))) → MW KX19_rules Q 0 0 (pcA pgX19_rules 158) [(0, (2, ((2514 : Nat) : Int))), (1, (0, (k + 1))), (2, (0, (nu + an))), (3, (0, (ic + 1))), (4, (0, by9)), (5, (0, gg9)), (6, (0, mo)), (7, (0, ka)), (8, (0, vv)), (9, (0, ((18 * nu) + (3 * ic)))), (10, (0, on)), (11, (0, nx))] [(0, ic2)] hh22 := by
                          intro ic2 icv
                          refine hd_istore pkX19_rules rfl rfl ?_
                          change MW _ _ _ _ _ [(3, (0, ic2)), (0, (2, ((2514 : Nat) : Int))), (1, (0, (k + 1))), (2, (0, (nu + an))), (4, (0, by9)), (5, (0, gg9)), (6, (0, mo)), (7, (0, ka)), (8, (0, vv)), (9, (0, ((18 * nu) + (3 * ic)))), (10, (0, on)), (11, (0, nx))] _ _
                          have cut166 : ∀ (mo2 : Int), ((mo2 = 1 ∧ (on = 1 ∨ nx = 1)) ∨ (mo2 = 0 ∧ on = 0 ∧ nx = 0)) → MW KX19_rules Q 0 0 (pcA pgX19_rules 166) [(0, (2, ((2514 : Nat) : Int))), (1, (0, (k + 1))), (2, (0, (nu + an))), (3, (0, ic2)), (4, (0, by9)), (5, (0, gg9)), (6, (0, mo)), (7, (0, ka)), (8, (0, vv)), (9, (0, ((18 * nu) + (3 * ic)))), (10, (0, on)), (11, (0, nx))] [(0, mo2)] hh22 := by
                            intro mo2 mov
                            refine hd_istore pkX19_rules rfl rfl ?_
                            change MW _ _ _ _ _ [(6, (0, mo2)), (0, (2, ((2514 : Nat) : Int))), (1, (0, (k + 1))), (2, (0, (nu + an))), (3, (0, ic2)), (4, (0, by9)), (5, (0, gg9)), (7, (0, ka)), (8, (0, vv)), (9, (0, ((18 * nu) + (3 * ic)))), (10, (0, on)), (11, (0, nx))] _ _
                            refine hd_iload pkX19_rules rfl rfl ?_
                            have cut173 : ∀ (ak : Int), ((ak = 1 ∧ mo2 = 1) ∨ (ak = 0 ∧ mo2 = 0)) → MW KX19_rules Q 0 0 (pcA pgX19_rules 173) [(0, (2, ((2514 : Nat) : Int))), (1, (0, (k + 1))), (2, (0, (nu + an))), (3, (0, ic2)), (4, (0, by9)), (5, (0, gg9)), (6, (0, mo2)), (7, (0, ka)), (8, (0, vv)), (9, (0, ((18 * nu) + (3 * ic)))), (10, (0, on)), (11, (0, nx))] [(0, ak), (0, (k + 1))] hh22 := by
                              intro ak akv
                              refine hd_iadd pkX19_rules rfl (by omega) ?_
                              refine hd_istore pkX19_rules rfl rfl ?_
                              change MW _ _ _ _ _ [(1, (0, ((k + 1) + ak))), (0, (2, ((2514 : Nat) : Int))), (2, (0, (nu + an))), (3, (0, ic2)), (4, (0, by9)), (5, (0, gg9)), (6, (0, mo2)), (7, (0, ka)), (8, (0, vv)), (9, (0, ((18 * nu) + (3 * ic)))), (10, (0, on)), (11, (0, nx))] _ _
                              refine hd_goto pkX19_rules rfl ?_
                              refine m_sub [(0, (2, ((2514 : Nat) : Int))), (1, (0, ((k + 1) + ak))), (2, (0, (nu + an))), (3, (0, ic2)), (4, (0, by9)), (5, (0, gg9)), (6, (0, mo2))] (List.forall_mem_cons.mpr ⟨rfl, List.forall_mem_cons.mpr ⟨rfl, List.forall_mem_cons.mpr ⟨rfl, List.forall_mem_cons.mpr ⟨rfl, List.forall_mem_cons.mpr ⟨rfl, List.forall_mem_cons.mpr ⟨rfl, List.forall_mem_cons.mpr ⟨rfl, fun _ h => absurd h List.not_mem_nil⟩⟩⟩⟩⟩⟩⟩) ?_
                              refine ih12  (((k + 1) + ak)) ((nu + an)) (ic2) (by9) (gg9) (mo2) hh22 ghh22 ?_ ?_ ?_ ?_ ?_ ?_ ?_ ?_ ?_ ?_
                              · exact oo
                              · exact jj
                              · exact e24
                              · omega
                              · omega
                              · omega
                              · omega
                              · omega
                              · omega
                              · omega
                            refine hd_iload pkX19_rules rfl rfl ?_
                            refine hd_if_eq pkX19_rules rfl (fun c23 => ?_) (fun c23 => ?_)
                            · skip
                              refine hd_ipush (z := 0) pkX19_rules rfl ?_
                              refine m_sub [(0, (2, ((2514 : Nat) : Int))), (1, (0, (k + 1))), (2, (0, (nu + an))), (3, (0, ic2)), (4, (0, by9)), (5, (0, gg9)), (6, (0, mo2)), (7, (0, ka)), (8, (0, vv)), (9, (0, ((18 * nu) + (3 * ic)))), (10, (0, on)), (11, (0, nx))] (List.forall_mem_cons.mpr ⟨rfl, List.forall_mem_cons.mpr ⟨rfl, List.forall_mem_cons.mpr ⟨rfl, List.forall_mem_cons.mpr ⟨rfl, List.forall_mem_cons.mpr ⟨rfl, List.forall_mem_cons.mpr ⟨rfl, List.forall_mem_cons.mpr ⟨rfl, List.forall_mem_cons.mpr ⟨rfl, List.forall_mem_cons.mpr ⟨rfl, List.forall_mem_cons.mpr ⟨rfl, List.forall_mem_cons.mpr ⟨rfl, List.forall_mem_cons.mpr ⟨rfl, fun _ h => absurd h List.not_mem_nil⟩⟩⟩⟩⟩⟩⟩⟩⟩⟩⟩⟩) ?_
                              refine cut173 (0) ?_
                              · omega
                            · skip
                              refine hd_ipush (z := 1) pkX19_rules rfl ?_
                              refine hd_goto pkX19_rules rfl ?_
                              refine m_sub [(0, (2, ((2514 : Nat) : Int))), (1, (0, (k + 1))), (2, (0, (nu + an))), (3, (0, ic2)), (4, (0, by9)), (5, (0, gg9)), (6, (0, mo2)), (7, (0, ka)), (8, (0, vv)), (9, (0, ((18 * nu) + (3 * ic)))), (10, (0, on)), (11, (0, nx))] (List.forall_mem_cons.mpr ⟨rfl, List.forall_mem_cons.mpr ⟨rfl, List.forall_mem_cons.mpr ⟨rfl, List.forall_mem_cons.mpr ⟨rfl, List.forall_mem_cons.mpr ⟨rfl, List.forall_mem_cons.mpr ⟨rfl, List.forall_mem_cons.mpr ⟨rfl, List.forall_mem_cons.mpr ⟨rfl, List.forall_mem_cons.mpr ⟨rfl, List.forall_mem_cons.mpr ⟨rfl, List.forall_mem_cons.mpr ⟨rfl, List.forall_mem_cons.mpr ⟨rfl, fun _ h => absurd h List.not_mem_nil⟩⟩⟩⟩⟩⟩⟩⟩⟩⟩⟩⟩) ?_
                              refine cut173 (1) ?_
                              · omega
                          refine hd_iload pkX19_rules rfl rfl ?_
                          refine hd_if_ne pkX19_rules rfl (fun c24 => ?_) (fun c24 => ?_)
                          · skip
                            refine hd_ipush (z := 1) pkX19_rules rfl ?_
                            refine hd_goto pkX19_rules rfl ?_
                            refine m_sub [(0, (2, ((2514 : Nat) : Int))), (1, (0, (k + 1))), (2, (0, (nu + an))), (3, (0, ic2)), (4, (0, by9)), (5, (0, gg9)), (6, (0, mo)), (7, (0, ka)), (8, (0, vv)), (9, (0, ((18 * nu) + (3 * ic)))), (10, (0, on)), (11, (0, nx))] (List.forall_mem_cons.mpr ⟨rfl, List.forall_mem_cons.mpr ⟨rfl, List.forall_mem_cons.mpr ⟨rfl, List.forall_mem_cons.mpr ⟨rfl, List.forall_mem_cons.mpr ⟨rfl, List.forall_mem_cons.mpr ⟨rfl, List.forall_mem_cons.mpr ⟨rfl, List.forall_mem_cons.mpr ⟨rfl, List.forall_mem_cons.mpr ⟨rfl, List.forall_mem_cons.mpr ⟨rfl, List.forall_mem_cons.mpr ⟨rfl, List.forall_mem_cons.mpr ⟨rfl, fun _ h => absurd h List.not_mem_nil⟩⟩⟩⟩⟩⟩⟩⟩⟩⟩⟩⟩) ?_
                            refine cut166 (1) ?_
                            · omega
                          · skip
                            refine hd_iload pkX19_rules rfl rfl ?_
                            refine hd_if_eq pkX19_rules rfl (fun c25 => ?_) (fun c25 => ?_)
                            · skip
                              refine hd_ipush (z := 0) pkX19_rules rfl ?_
                              refine m_sub [(0, (2, ((2514 : Nat) : Int))), (1, (0, (k + 1))), (2, (0, (nu + an))), (3, (0, ic2)), (4, (0, by9)), (5, (0, gg9)), (6, (0, mo)), (7, (0, ka)), (8, (0, vv)), (9, (0, ((18 * nu) + (3 * ic)))), (10, (0, on)), (11, (0, nx))] (List.forall_mem_cons.mpr ⟨rfl, List.forall_mem_cons.mpr ⟨rfl, List.forall_mem_cons.mpr ⟨rfl, List.forall_mem_cons.mpr ⟨rfl, List.forall_mem_cons.mpr ⟨rfl, List.forall_mem_cons.mpr ⟨rfl, List.forall_mem_cons.mpr ⟨rfl, List.forall_mem_cons.mpr ⟨rfl, List.forall_mem_cons.mpr ⟨rfl, List.forall_mem_cons.mpr ⟨rfl, List.forall_mem_cons.mpr ⟨rfl, List.forall_mem_cons.mpr ⟨rfl, fun _ h => absurd h List.not_mem_nil⟩⟩⟩⟩⟩⟩⟩⟩⟩⟩⟩⟩) ?_
                              refine cut166 (0) ?_
                              · omega
                            · skip
                              refine hd_ipush (z := 1) pkX19_rules rfl ?_
                              refine hd_goto pkX19_rules rfl ?_
                              refine m_sub [(0, (2, ((2514 : Nat) : Int))), (1, (0, (k + 1))), (2, (0, (nu + an))), (3, (0, ic2)), (4, (0, by9)), (5, (0, gg9)), (6, (0, mo)), (7, (0, ka)), (8, (0, vv)), (9, (0, ((18 * nu) + (3 * ic)))), (10, (0, on)), (11, (0, nx))] (List.forall_mem_cons.mpr ⟨rfl, List.forall_mem_cons.mpr ⟨rfl, List.forall_mem_cons.mpr ⟨rfl, List.forall_mem_cons.mpr ⟨rfl, List.forall_mem_cons.mpr ⟨rfl, List.forall_mem_cons.mpr ⟨rfl, List.forall_mem_cons.mpr ⟨rfl, List.forall_mem_cons.mpr ⟨rfl, List.forall_mem_cons.mpr ⟨rfl, List.forall_mem_cons.mpr ⟨rfl, List.forall_mem_cons.mpr ⟨rfl, List.forall_mem_cons.mpr ⟨rfl, fun _ h => absurd h List.not_mem_nil⟩⟩⟩⟩⟩⟩⟩⟩⟩⟩⟩⟩) ?_
                              refine cut166 (1) ?_
                              · omega
                        refine hd_iload pkX19_rules rfl rfl ?_
                        refine hd_if_eq pkX19_rules rfl (fun c26 => ?_) (fun c26 => ?_)
                        · skip
                          refine hd_iload pkX19_rules rfl rfl ?_
                          refine m_sub [(0, (2, ((2514 : Nat) : Int))), (1, (0, (k + 1))), (2, (0, (nu + an))), (3, (0, (ic + 1))), (4, (0, by9)), (5, (0, gg9)), (6, (0, mo)), (7, (0, ka)), (8, (0, vv)), (9, (0, ((18 * nu) + (3 * ic)))), (10, (0, on)), (11, (0, nx))] (List.forall_mem_cons.mpr ⟨rfl, List.forall_mem_cons.mpr ⟨rfl, List.forall_mem_cons.mpr ⟨rfl, List.forall_mem_cons.mpr ⟨rfl, List.forall_mem_cons.mpr ⟨rfl, List.forall_mem_cons.mpr ⟨rfl, List.forall_mem_cons.mpr ⟨rfl, List.forall_mem_cons.mpr ⟨rfl, List.forall_mem_cons.mpr ⟨rfl, List.forall_mem_cons.mpr ⟨rfl, List.forall_mem_cons.mpr ⟨rfl, List.forall_mem_cons.mpr ⟨rfl, fun _ h => absurd h List.not_mem_nil⟩⟩⟩⟩⟩⟩⟩⟩⟩⟩⟩⟩) ?_
                          refine cut158 ((ic + 1)) ?_
                          · omega
                        · skip
                          refine hd_ipush (z := 0) pkX19_rules rfl ?_
                          refine hd_goto pkX19_rules rfl ?_
                          refine m_sub [(0, (2, ((2514 : Nat) : Int))), (1, (0, (k + 1))), (2, (0, (nu + an))), (3, (0, (ic + 1))), (4, (0, by9)), (5, (0, gg9)), (6, (0, mo)), (7, (0, ka)), (8, (0, vv)), (9, (0, ((18 * nu) + (3 * ic)))), (10, (0, on)), (11, (0, nx))] (List.forall_mem_cons.mpr ⟨rfl, List.forall_mem_cons.mpr ⟨rfl, List.forall_mem_cons.mpr ⟨rfl, List.forall_mem_cons.mpr ⟨rfl, List.forall_mem_cons.mpr ⟨rfl, List.forall_mem_cons.mpr ⟨rfl, List.forall_mem_cons.mpr ⟨rfl, List.forall_mem_cons.mpr ⟨rfl, List.forall_mem_cons.mpr ⟨rfl, List.forall_mem_cons.mpr ⟨rfl, List.forall_mem_cons.mpr ⟨rfl, List.forall_mem_cons.mpr ⟨rfl, fun _ h => absurd h List.not_mem_nil⟩⟩⟩⟩⟩⟩⟩⟩⟩⟩⟩⟩) ?_
                          refine cut158 (0) ?_
                          · omega
                      refine hd_iload pkX19_rules rfl rfl ?_
                      refine hd_if_eq pkX19_rules rfl (fun c27 => ?_) (fun c27 => ?_)
                      · skip
                        refine hd_ipush (z := 0) pkX19_rules rfl ?_
                        refine m_sub [(0, (2, ((2514 : Nat) : Int))), (1, (0, (k + 1))), (2, (0, nu)), (3, (0, (ic + 1))), (4, (0, by9)), (5, (0, gg9)), (6, (0, mo)), (7, (0, ka)), (8, (0, vv)), (9, (0, ((18 * nu) + (3 * ic)))), (10, (0, on)), (11, (0, nx))] (List.forall_mem_cons.mpr ⟨rfl, List.forall_mem_cons.mpr ⟨rfl, List.forall_mem_cons.mpr ⟨rfl, List.forall_mem_cons.mpr ⟨rfl, List.forall_mem_cons.mpr ⟨rfl, List.forall_mem_cons.mpr ⟨rfl, List.forall_mem_cons.mpr ⟨rfl, List.forall_mem_cons.mpr ⟨rfl, List.forall_mem_cons.mpr ⟨rfl, List.forall_mem_cons.mpr ⟨rfl, List.forall_mem_cons.mpr ⟨rfl, List.forall_mem_cons.mpr ⟨rfl, fun _ h => absurd h List.not_mem_nil⟩⟩⟩⟩⟩⟩⟩⟩⟩⟩⟩⟩) ?_
                        refine cut151 (0) ?_
                        · omega
                      · skip
                        refine hd_ipush (z := 1) pkX19_rules rfl ?_
                        refine hd_goto pkX19_rules rfl ?_
                        refine m_sub [(0, (2, ((2514 : Nat) : Int))), (1, (0, (k + 1))), (2, (0, nu)), (3, (0, (ic + 1))), (4, (0, by9)), (5, (0, gg9)), (6, (0, mo)), (7, (0, ka)), (8, (0, vv)), (9, (0, ((18 * nu) + (3 * ic)))), (10, (0, on)), (11, (0, nx))] (List.forall_mem_cons.mpr ⟨rfl, List.forall_mem_cons.mpr ⟨rfl, List.forall_mem_cons.mpr ⟨rfl, List.forall_mem_cons.mpr ⟨rfl, List.forall_mem_cons.mpr ⟨rfl, List.forall_mem_cons.mpr ⟨rfl, List.forall_mem_cons.mpr ⟨rfl, List.forall_mem_cons.mpr ⟨rfl, List.forall_mem_cons.mpr ⟨rfl, List.forall_mem_cons.mpr ⟨rfl, List.forall_mem_cons.mpr ⟨rfl, List.forall_mem_cons.mpr ⟨rfl, fun _ h => absurd h List.not_mem_nil⟩⟩⟩⟩⟩⟩⟩⟩⟩⟩⟩⟩) ?_
                        refine cut151 (1) ?_
                        · omega
                    refine hd_aload pkX19_rules rfl rfl (Int.natCast_nonneg _) ?_
                    refine hd_iload pkX19_rules rfl rfl ?_
                    refine hd_callV pkX19_rules rfl (q := (KX19_sign, yX19_sign, 19, 1, 0)) rfl rfl rfl (As := [(0, (k + 1))]) (rest := []) (c := 2514) rfl rfl (Nat.le_of_ble_eq_true rfl) (ghh22.cell 0 rfl).1 (ghh22.cell 0 rfl).2.1 (h_X19_sign (by omega) jj.1 ghh22) (hd_bI (fun w28 hc29 psg => ?_))
                    obtain ⟨psg, ehc29⟩ := psg
                    replace ehc29 := ehc29.symm
                    subst ehc29
                    subst psg
                    have sl : Sg9 hh22 (k + 1) = 0 ∨ (k + 1) < z0 := by
                      by_cases q : (k + 1) < z0
                      · exact Or.inr q
                      · exact Or.inl (by unfold Sg9; rw [e24]; exact if_neg q)
                    refine hd_ipush (z := 45) pkX19_rules rfl ?_
                    refine hd_ic_ne pkX19_rules rfl (fun c30 => ?_) (fun c30 => ?_)
                    · skip
                      refine hd_ipush (z := 1) pkX19_rules rfl ?_
                      refine m_sub [(0, (2, ((2514 : Nat) : Int))), (1, (0, (k + 1))), (2, (0, nu)), (3, (0, (ic + 1))), (4, (0, bz)), (5, (0, gg9)), (6, (0, mo)), (7, (0, ka)), (8, (0, vv)), (9, (0, ((18 * nu) + (3 * ic)))), (10, (0, on)), (11, (0, nx))] (List.forall_mem_cons.mpr ⟨rfl, List.forall_mem_cons.mpr ⟨rfl, List.forall_mem_cons.mpr ⟨rfl, List.forall_mem_cons.mpr ⟨rfl, List.forall_mem_cons.mpr ⟨rfl, List.forall_mem_cons.mpr ⟨rfl, List.forall_mem_cons.mpr ⟨rfl, List.forall_mem_cons.mpr ⟨rfl, List.forall_mem_cons.mpr ⟨rfl, List.forall_mem_cons.mpr ⟨rfl, List.forall_mem_cons.mpr ⟨rfl, List.forall_mem_cons.mpr ⟨rfl, fun _ h => absurd h List.not_mem_nil⟩⟩⟩⟩⟩⟩⟩⟩⟩⟩⟩⟩) ?_
                      refine cut144 (1) ?_
                      · omega
                    · skip
                      refine hd_ipush (z := (-1)) pkX19_rules rfl ?_
                      refine hd_goto pkX19_rules rfl ?_
                      refine m_sub [(0, (2, ((2514 : Nat) : Int))), (1, (0, (k + 1))), (2, (0, nu)), (3, (0, (ic + 1))), (4, (0, bz)), (5, (0, gg9)), (6, (0, mo)), (7, (0, ka)), (8, (0, vv)), (9, (0, ((18 * nu) + (3 * ic)))), (10, (0, on)), (11, (0, nx))] (List.forall_mem_cons.mpr ⟨rfl, List.forall_mem_cons.mpr ⟨rfl, List.forall_mem_cons.mpr ⟨rfl, List.forall_mem_cons.mpr ⟨rfl, List.forall_mem_cons.mpr ⟨rfl, List.forall_mem_cons.mpr ⟨rfl, List.forall_mem_cons.mpr ⟨rfl, List.forall_mem_cons.mpr ⟨rfl, List.forall_mem_cons.mpr ⟨rfl, List.forall_mem_cons.mpr ⟨rfl, List.forall_mem_cons.mpr ⟨rfl, List.forall_mem_cons.mpr ⟨rfl, fun _ h => absurd h List.not_mem_nil⟩⟩⟩⟩⟩⟩⟩⟩⟩⟩⟩⟩) ?_
                      refine cut144 ((-1)) ?_
                      · omega
                  refine hd_aload pkX19_rules rfl rfl (Int.natCast_nonneg _) ?_
                  refine hd_iload pkX19_rules rfl rfl ?_
                  refine hd_callV pkX19_rules rfl (q := (KX19_sign, yX19_sign, 19, 1, 0)) rfl rfl rfl (As := [(0, (k + 1))]) (rest := []) (c := 2514) rfl rfl (Nat.le_of_ble_eq_true rfl) (ghh22.cell 0 rfl).1 (ghh22.cell 0 rfl).2.1 (h_X19_sign (by omega) jj.1 ghh22) (hd_bI (fun w31 hc32 psg => ?_))
                  obtain ⟨psg, ehc32⟩ := psg
                  replace ehc32 := ehc32.symm
                  subst ehc32
                  subst psg
                  have sl : Sg9 hh22 (k + 1) = 0 ∨ (k + 1) < z0 := by
                    by_cases q : (k + 1) < z0
                    · exact Or.inr q
                    · exact Or.inl (by unfold Sg9; rw [e24]; exact if_neg q)
                  refine hd_ipush (z := 59) pkX19_rules rfl ?_
                  refine hd_ic_ne pkX19_rules rfl (fun c33 => ?_) (fun c33 => ?_)
                  · skip
                    refine hd_ipush (z := 0) pkX19_rules rfl ?_
                    refine m_sub [(0, (2, ((2514 : Nat) : Int))), (1, (0, (k + 1))), (2, (0, nu)), (3, (0, (ic + 1))), (4, (0, bz)), (5, (0, gg9)), (6, (0, mo)), (7, (0, ka)), (8, (0, vv)), (9, (0, ((18 * nu) + (3 * ic)))), (10, (0, on))] (List.forall_mem_cons.mpr ⟨rfl, List.forall_mem_cons.mpr ⟨rfl, List.forall_mem_cons.mpr ⟨rfl, List.forall_mem_cons.mpr ⟨rfl, List.forall_mem_cons.mpr ⟨rfl, List.forall_mem_cons.mpr ⟨rfl, List.forall_mem_cons.mpr ⟨rfl, List.forall_mem_cons.mpr ⟨rfl, List.forall_mem_cons.mpr ⟨rfl, List.forall_mem_cons.mpr ⟨rfl, List.forall_mem_cons.mpr ⟨rfl, fun _ h => absurd h List.not_mem_nil⟩⟩⟩⟩⟩⟩⟩⟩⟩⟩⟩) ?_
                    refine cut135 (0) ?_
                    · omega
                  · skip
                    refine hd_iload pkX19_rules rfl rfl ?_
                    refine hd_ipush (z := 7) pkX19_rules rfl ?_
                    refine hd_ic_ge pkX19_rules rfl (fun c34 => ?_) (fun c34 => ?_)
                    · skip
                      refine hd_ipush (z := 0) pkX19_rules rfl ?_
                      refine m_sub [(0, (2, ((2514 : Nat) : Int))), (1, (0, (k + 1))), (2, (0, nu)), (3, (0, (ic + 1))), (4, (0, bz)), (5, (0, gg9)), (6, (0, mo)), (7, (0, ka)), (8, (0, vv)), (9, (0, ((18 * nu) + (3 * ic)))), (10, (0, on))] (List.forall_mem_cons.mpr ⟨rfl, List.forall_mem_cons.mpr ⟨rfl, List.forall_mem_cons.mpr ⟨rfl, List.forall_mem_cons.mpr ⟨rfl, List.forall_mem_cons.mpr ⟨rfl, List.forall_mem_cons.mpr ⟨rfl, List.forall_mem_cons.mpr ⟨rfl, List.forall_mem_cons.mpr ⟨rfl, List.forall_mem_cons.mpr ⟨rfl, List.forall_mem_cons.mpr ⟨rfl, List.forall_mem_cons.mpr ⟨rfl, fun _ h => absurd h List.not_mem_nil⟩⟩⟩⟩⟩⟩⟩⟩⟩⟩⟩) ?_
                      refine cut135 (0) ?_
                      · omega
                    · skip
                      refine hd_ipush (z := 1) pkX19_rules rfl ?_
                      refine hd_goto pkX19_rules rfl ?_
                      refine m_sub [(0, (2, ((2514 : Nat) : Int))), (1, (0, (k + 1))), (2, (0, nu)), (3, (0, (ic + 1))), (4, (0, bz)), (5, (0, gg9)), (6, (0, mo)), (7, (0, ka)), (8, (0, vv)), (9, (0, ((18 * nu) + (3 * ic)))), (10, (0, on))] (List.forall_mem_cons.mpr ⟨rfl, List.forall_mem_cons.mpr ⟨rfl, List.forall_mem_cons.mpr ⟨rfl, List.forall_mem_cons.mpr ⟨rfl, List.forall_mem_cons.mpr ⟨rfl, List.forall_mem_cons.mpr ⟨rfl, List.forall_mem_cons.mpr ⟨rfl, List.forall_mem_cons.mpr ⟨rfl, List.forall_mem_cons.mpr ⟨rfl, List.forall_mem_cons.mpr ⟨rfl, List.forall_mem_cons.mpr ⟨rfl, fun _ h => absurd h List.not_mem_nil⟩⟩⟩⟩⟩⟩⟩⟩⟩⟩⟩) ?_
                      refine cut135 (1) ?_
                      · omega
                refine hd_aload pkX19_rules rfl rfl (Int.natCast_nonneg _) ?_
                refine hd_iload pkX19_rules rfl rfl ?_
                refine hd_callV pkX19_rules rfl (q := (KX19_sign, yX19_sign, 19, 1, 0)) rfl rfl rfl (As := [(0, (k + 1))]) (rest := []) (c := 2514) rfl rfl (Nat.le_of_ble_eq_true rfl) (ghh22.cell 0 rfl).1 (ghh22.cell 0 rfl).2.1 (h_X19_sign (by omega) jj.1 ghh22) (hd_bI (fun w35 hc36 psg => ?_))
                obtain ⟨psg, ehc36⟩ := psg
                replace ehc36 := ehc36.symm
                subst ehc36
                subst psg
                have sl : Sg9 hh22 (k + 1) = 0 ∨ (k + 1) < z0 := by
                  by_cases q : (k + 1) < z0
                  · exact Or.inr q
                  · exact Or.inl (by unfold Sg9; rw [e24]; exact if_neg q)
                refine hd_ipush (z := 43) pkX19_rules rfl ?_
                refine hd_ic_eq pkX19_rules rfl (fun c37 => ?_) (fun c37 => ?_)
                · skip
                  refine hd_iload pkX19_rules rfl rfl ?_
                  refine hd_ipush (z := 6) pkX19_rules rfl ?_
                  refine hd_ic_ge pkX19_rules rfl (fun c38 => ?_) (fun c38 => ?_)
                  · skip
                    refine hd_ipush (z := 0) pkX19_rules rfl ?_
                    refine m_sub [(0, (2, ((2514 : Nat) : Int))), (1, (0, (k + 1))), (2, (0, nu)), (3, (0, (ic + 1))), (4, (0, bz)), (5, (0, gg9)), (6, (0, mo)), (7, (0, ka)), (8, (0, vv)), (9, (0, ((18 * nu) + (3 * ic))))] (List.forall_mem_cons.mpr ⟨rfl, List.forall_mem_cons.mpr ⟨rfl, List.forall_mem_cons.mpr ⟨rfl, List.forall_mem_cons.mpr ⟨rfl, List.forall_mem_cons.mpr ⟨rfl, List.forall_mem_cons.mpr ⟨rfl, List.forall_mem_cons.mpr ⟨rfl, List.forall_mem_cons.mpr ⟨rfl, List.forall_mem_cons.mpr ⟨rfl, List.forall_mem_cons.mpr ⟨rfl, fun _ h => absurd h List.not_mem_nil⟩⟩⟩⟩⟩⟩⟩⟩⟩⟩) ?_
                    refine cut123 (0) ?_
                    · omega
                  · skip
                    refine hd_ipush (z := 1) pkX19_rules rfl ?_
                    refine hd_goto pkX19_rules rfl ?_
                    refine m_sub [(0, (2, ((2514 : Nat) : Int))), (1, (0, (k + 1))), (2, (0, nu)), (3, (0, (ic + 1))), (4, (0, bz)), (5, (0, gg9)), (6, (0, mo)), (7, (0, ka)), (8, (0, vv)), (9, (0, ((18 * nu) + (3 * ic))))] (List.forall_mem_cons.mpr ⟨rfl, List.forall_mem_cons.mpr ⟨rfl, List.forall_mem_cons.mpr ⟨rfl, List.forall_mem_cons.mpr ⟨rfl, List.forall_mem_cons.mpr ⟨rfl, List.forall_mem_cons.mpr ⟨rfl, List.forall_mem_cons.mpr ⟨rfl, List.forall_mem_cons.mpr ⟨rfl, List.forall_mem_cons.mpr ⟨rfl, List.forall_mem_cons.mpr ⟨rfl, fun _ h => absurd h List.not_mem_nil⟩⟩⟩⟩⟩⟩⟩⟩⟩⟩) ?_
                    refine cut123 (1) ?_
                    · omega
                · skip
                  refine hd_aload pkX19_rules rfl rfl (Int.natCast_nonneg _) ?_
                  refine hd_iload pkX19_rules rfl rfl ?_
                  refine hd_callV pkX19_rules rfl (q := (KX19_sign, yX19_sign, 19, 1, 0)) rfl rfl rfl (As := [(0, (k + 1))]) (rest := []) (c := 2514) rfl rfl (Nat.le_of_ble_eq_true rfl) (ghh22.cell 0 rfl).1 (ghh22.cell 0 rfl).2.1 (h_X19_sign (by omega) jj.1 ghh22) (hd_bI (fun w39 hc40 psg => ?_))
                  obtain ⟨psg, ehc40⟩ := psg
                  replace ehc40 := ehc40.symm
                  subst ehc40
                  subst psg
                  have sl : Sg9 hh22 (k + 1) = 0 ∨ (k + 1) < z0 := by
                    by_cases q : (k + 1) < z0
                    · exact Or.inr q
                    · exact Or.inl (by unfold Sg9; rw [e24]; exact if_neg q)
                  refine hd_ipush (z := 45) pkX19_rules rfl ?_
                  refine hd_ic_ne pkX19_rules rfl (fun c41 => ?_) (fun c41 => ?_)
                  · skip
                    refine hd_ipush (z := 0) pkX19_rules rfl ?_
                    refine m_sub [(0, (2, ((2514 : Nat) : Int))), (1, (0, (k + 1))), (2, (0, nu)), (3, (0, (ic + 1))), (4, (0, bz)), (5, (0, gg9)), (6, (0, mo)), (7, (0, ka)), (8, (0, vv)), (9, (0, ((18 * nu) + (3 * ic))))] (List.forall_mem_cons.mpr ⟨rfl, List.forall_mem_cons.mpr ⟨rfl, List.forall_mem_cons.mpr ⟨rfl, List.forall_mem_cons.mpr ⟨rfl, List.forall_mem_cons.mpr ⟨rfl, List.forall_mem_cons.mpr ⟨rfl, List.forall_mem_cons.mpr ⟨rfl, List.forall_mem_cons.mpr ⟨rfl, List.forall_mem_cons.mpr ⟨rfl, List.forall_mem_cons.mpr ⟨rfl, fun _ h => absurd h List.not_mem_nil⟩⟩⟩⟩⟩⟩⟩⟩⟩⟩) ?_
                    refine cut123 (0) ?_
                    · omega
                  · skip
                    refine hd_iload pkX19_rules rfl rfl ?_
                    refine hd_ipush (z := 6) pkX19_rules rfl ?_
                    refine hd_ic_ge pkX19_rules rfl (fun c42 => ?_) (fun c42 => ?_)
                    · skip
                      refine hd_ipush (z := 0) pkX19_rules rfl ?_
                      refine m_sub [(0, (2, ((2514 : Nat) : Int))), (1, (0, (k + 1))), (2, (0, nu)), (3, (0, (ic + 1))), (4, (0, bz)), (5, (0, gg9)), (6, (0, mo)), (7, (0, ka)), (8, (0, vv)), (9, (0, ((18 * nu) + (3 * ic))))] (List.forall_mem_cons.mpr ⟨rfl, List.forall_mem_cons.mpr ⟨rfl, List.forall_mem_cons.mpr ⟨rfl, List.forall_mem_cons.mpr ⟨rfl, List.forall_mem_cons.mpr ⟨rfl, List.forall_mem_cons.mpr ⟨rfl, List.forall_mem_cons.mpr ⟨rfl, List.forall_mem_cons.mpr ⟨rfl, List.forall_mem_cons.mpr ⟨rfl, List.forall_mem_cons.mpr ⟨rfl, fun _ h => absurd h List.not_mem_nil⟩⟩⟩⟩⟩⟩⟩⟩⟩⟩) ?_
                      refine cut123 (0) ?_
                      · omega
                    · skip
                      refine hd_ipush (z := 1) pkX19_rules rfl ?_
                      refine hd_goto pkX19_rules rfl ?_
                      refine m_sub [(0, (2, ((2514 : Nat) : Int))), (1, (0, (k + 1))), (2, (0, nu)), (3, (0, (ic + 1))), (4, (0, bz)), (5, (0, gg9)), (6, (0, mo)), (7, (0, ka)), (8, (0, vv)), (9, (0, ((18 * nu) + (3 * ic))))] (List.forall_mem_cons.mpr ⟨rfl, List.forall_mem_cons.mpr ⟨rfl, List.forall_mem_cons.mpr ⟨rfl, List.forall_mem_cons.mpr ⟨rfl, List.forall_mem_cons.mpr ⟨rfl, List.forall_mem_cons.mpr ⟨rfl, List.forall_mem_cons.mpr ⟨rfl, List.forall_mem_cons.mpr ⟨rfl, List.forall_mem_cons.mpr ⟨rfl, List.forall_mem_cons.mpr ⟨rfl, fun _ h => absurd h List.not_mem_nil⟩⟩⟩⟩⟩⟩⟩⟩⟩⟩) ?_
                      refine cut123 (1) ?_
                      · omega
            refine hd_iload pkX19_rules rfl rfl ?_
            refine hd_ic_le pkX19_rules rfl (fun c43 => ?_) (fun c43 => ?_)
            · skip
              refine hd_ipush (z := 0) pkX19_rules rfl ?_
              refine cut68 (0) ?_
              · omega
            · skip
              refine hd_aload pkX19_rules rfl rfl (Int.natCast_nonneg _) ?_
              refine hd_iload pkX19_rules rfl rfl ?_
              refine hd_callV pkX19_rules rfl (q := (KX19_sign, yX19_sign, 19, 1, 0)) rfl rfl rfl (As := [(0, k)]) (rest := []) (c := 2514) rfl rfl (Nat.le_of_ble_eq_true rfl) (g12.cell 0 rfl).1 (g12.cell 0 rfl).2.1 (h_X19_sign (by omega) jj.1 g12) (hd_bI (fun w44 hc45 psg => ?_))
              obtain ⟨psg, ehc45⟩ := psg
              replace ehc45 := ehc45.symm
              subst ehc45
              subst psg
              have sl : Sg9 hm k = 0 ∨ k < z0 := by
                by_cases q : k < z0
                · exact Or.inr q
                · exact Or.inl (by unfold Sg9; rw [e24]; exact if_neg q)
              refine hd_ipush (z := 87) pkX19_rules rfl ?_
              refine hd_ic_eq pkX19_rules rfl (fun c46 => ?_) (fun c46 => ?_)
              · skip
                refine hd_ipush (z := 1) pkX19_rules rfl ?_
                refine hd_goto pkX19_rules rfl ?_
                refine cut68 (1) ?_
                · omega
              · skip
                refine hd_aload pkX19_rules rfl rfl (Int.natCast_nonneg _) ?_
                refine hd_iload pkX19_rules rfl rfl ?_
                refine hd_callV pkX19_rules rfl (q := (KX19_sign, yX19_sign, 19, 1, 0)) rfl rfl rfl (As := [(0, k)]) (rest := []) (c := 2514) rfl rfl (Nat.le_of_ble_eq_true rfl) (g12.cell 0 rfl).1 (g12.cell 0 rfl).2.1 (h_X19_sign (by omega) jj.1 g12) (hd_bI (fun w47 hc48 psg => ?_))
                obtain ⟨psg, ehc48⟩ := psg
                replace ehc48 := ehc48.symm
                subst ehc48
                subst psg
                have sl : Sg9 hm k = 0 ∨ k < z0 := by
                  by_cases q : k < z0
                  · exact Or.inr q
                  · exact Or.inl (by unfold Sg9; rw [e24]; exact if_neg q)
                refine hd_ipush (z := 80) pkX19_rules rfl ?_
                refine hd_ic_eq pkX19_rules rfl (fun c49 => ?_) (fun c49 => ?_)
                · skip
                  refine hd_ipush (z := 1) pkX19_rules rfl ?_
                  refine hd_goto pkX19_rules rfl ?_
                  refine cut68 (1) ?_
                  · omega
                · skip
                  refine hd_aload pkX19_rules rfl rfl (Int.natCast_nonneg _) ?_
                  refine hd_iload pkX19_rules rfl rfl ?_
                  refine hd_callV pkX19_rules rfl (q := (KX19_sign, yX19_sign, 19, 1, 0)) rfl rfl rfl (As := [(0, k)]) (rest := []) (c := 2514) rfl rfl (Nat.le_of_ble_eq_true rfl) (g12.cell 0 rfl).1 (g12.cell 0 rfl).2.1 (h_X19_sign (by omega) jj.1 g12) (hd_bI (fun w50 hc51 psg => ?_))
                  obtain ⟨psg, ehc51⟩ := psg
                  replace ehc51 := ehc51.symm
                  subst ehc51
                  subst psg
                  have sl : Sg9 hm k = 0 ∨ k < z0 := by
                    by_cases q : k < z0
                    · exact Or.inr q
                    · exact Or.inl (by unfold Sg9; rw [e24]; exact if_neg q)
                  refine hd_ipush (z := 76) pkX19_rules rfl ?_
                  refine hd_ic_ne pkX19_rules rfl (fun c52 => ?_) (fun c52 => ?_)
                  · skip
                    refine hd_ipush (z := 0) pkX19_rules rfl ?_
                    refine cut68 (0) ?_
                    · omega
                  · skip
                    refine hd_ipush (z := 1) pkX19_rules rfl ?_
                    refine hd_goto pkX19_rules rfl ?_
                    refine cut68 (1) ?_
                    · omega
          refine hd_istore pkX19_rules rfl rfl ?_
          change MW _ _ _ _ _ [(8, (0, 0)), (7, (0, ka)), (0, (2, ((2514 : Nat) : Int))), (1, (0, ka)), (2, (0, nu)), (3, (0, ic)), (4, (0, bz)), (5, (0, gd)), (6, (0, mo))] _ _
          have lp20 : ∀ (N20 : Nat) (k vv : Int), (ka ≤ k ∧ k ≤ z0) → ((k = ka ∧ vv = 0) ∨ (k = ka + 1 ∧ 0 ≤ vv ∧ vv ≤ 9) ∨ (k = ka + 2 ∧ 0 ≤ vv ∧ vv ≤ 99) ∨ (k = ka + 3 ∧ 0 ≤ vv ∧ vv ≤ 999) ∨ (k = ka + 4 ∧ 0 ≤ vv ∧ vv ≤ 9999)) → z0 - k < (N20 : Int) → MW KX19_rules Q 0 0 (pcA pgX19_rules 20) [(0, (2, ((2514 : Nat) : Int))), (1, (0, k)), (2, (0, nu)), (3, (0, ic)), (4, (0, bz)), (5, (0, gd)), (6, (0, mo)), (7, (0, ka)), (8, (0, vv))] [] hm := by
            intro N20
            induction N20 with
            | zero => intro k vv k1 vb hm20; exfalso; omega
            | succ N20 ih20 =>
              intro k vv k1 vb hm20
              refine hd_aload pkX19_rules rfl rfl (Int.natCast_nonneg _) ?_
              refine hd_iload pkX19_rules rfl rfl ?_
              refine hd_callV pkX19_rules rfl (q := (KX19_sign, yX19_sign, 19, 1, 0)) rfl rfl rfl (As := [(0, k)]) (rest := []) (c := 2514) rfl rfl (Nat.le_of_ble_eq_true rfl) (g12.cell 0 rfl).1 (g12.cell 0 rfl).2.1 (h_X19_sign (by omega) jj.1 g12) (hd_bI (fun w53 hc54 psg => ?_))
              obtain ⟨psg, ehc54⟩ := psg
              replace ehc54 := ehc54.symm
              subst ehc54
              subst psg
              have sl : Sg9 hm k = 0 ∨ k < z0 := by
                by_cases q : k < z0
                · exact Or.inr q
                · exact Or.inl (by unfold Sg9; rw [e24]; exact if_neg q)
              refine hd_ipush (z := 48) pkX19_rules rfl ?_
              refine hd_ic_lt pkX19_rules rfl (fun c55 => ?_) (fun c55 => ?_)
              · skip
                refine cut47 (k) (vv) ?_ ?_
                · omega
                · omega
              · skip
                refine hd_aload pkX19_rules rfl rfl (Int.natCast_nonneg _) ?_
                refine hd_iload pkX19_rules rfl rfl ?_
                refine hd_callV pkX19_rules rfl (q := (KX19_sign, yX19_sign, 19, 1, 0)) rfl rfl rfl (As := [(0, k)]) (rest := []) (c := 2514) rfl rfl (Nat.le_of_ble_eq_true rfl) (g12.cell 0 rfl).1 (g12.cell 0 rfl).2.1 (h_X19_sign (by omega) jj.1 g12) (hd_bI (fun w56 hc57 psg => ?_))
                obtain ⟨psg, ehc57⟩ := psg
                replace ehc57 := ehc57.symm
                subst ehc57
                subst psg
                have sl : Sg9 hm k = 0 ∨ k < z0 := by
                  by_cases q : k < z0
                  · exact Or.inr q
                  · exact Or.inl (by unfold Sg9; rw [e24]; exact if_neg q)
                refine hd_ipush (z := 57) pkX19_rules rfl ?_
                refine hd_ic_gt pkX19_rules rfl (fun c58 => ?_) (fun c58 => ?_)
                · skip
                  refine cut47 (k) (vv) ?_ ?_
                  · omega
                  · omega
                · skip
                  refine hd_iload pkX19_rules rfl rfl ?_
                  refine hd_iload pkX19_rules rfl rfl ?_
                  refine hd_ipush (z := 4) pkX19_rules rfl ?_
                  refine hd_iadd pkX19_rules rfl (by omega) ?_
                  refine hd_ic_ge pkX19_rules rfl (fun c59 => ?_) (fun c59 => ?_)
                  · skip
                    refine cut47 (k) (vv) ?_ ?_
                    · omega
                    · omega
                  · skip
                    refine hd_ipush (z := 10) pkX19_rules rfl ?_
                    refine hd_iload pkX19_rules rfl rfl ?_
                    refine hd_imul pkX19_rules rfl (by omega) ?_
                    refine hd_aload pkX19_rules rfl rfl (Int.natCast_nonneg _) ?_
                    refine hd_iload pkX19_rules rfl rfl ?_
                    refine hd_callV pkX19_rules rfl (q := (KX19_sign, yX19_sign, 19, 1, 0)) rfl rfl rfl (As := [(0, k)]) (rest := [(0, (10 * vv))]) (c := 2514) rfl rfl (Nat.le_of_ble_eq_true rfl) (g12.cell 0 rfl).1 (g12.cell 0 rfl).2.1 (h_X19_sign (by omega) jj.1 g12) (hd_bI (fun w60 hc61 psg => ?_))
                    obtain ⟨psg, ehc61⟩ := psg
                    replace ehc61 := ehc61.symm
                    subst ehc61
                    subst psg
                    have sl : Sg9 hm k = 0 ∨ k < z0 := by
                      by_cases q : k < z0
                      · exact Or.inr q
                      · exact Or.inl (by unfold Sg9; rw [e24]; exact if_neg q)
                    refine hd_iadd pkX19_rules rfl (by omega) ?_
                    refine hd_ipush (z := 48) pkX19_rules rfl ?_
                    refine hd_isub pkX19_rules rfl (by omega) ?_
                    refine hd_istore pkX19_rules rfl rfl ?_
                    change MW _ _ _ _ _ [(8, (0, (((10 * vv) + (Sg9 hm k)) - 48))), (0, (2, ((2514 : Nat) : Int))), (1, (0, k)), (2, (0, nu)), (3, (0, ic)), (4, (0, bz)), (5, (0, gd)), (6, (0, mo)), (7, (0, ka))] _ _
                    refine hd_iinc (z := 1) pkX19_rules rfl rfl (by omega) rfl ?_
                    change MW _ _ _ _ _ [(1, (0, (k + 1))), (8, (0, (((10 * vv) + (Sg9 hm k)) - 48))), (0, (2, ((2514 : Nat) : Int))), (2, (0, nu)), (3, (0, ic)), (4, (0, bz)), (5, (0, gd)), (6, (0, mo)), (7, (0, ka))] _ _
                    refine hd_goto pkX19_rules rfl ?_
                    refine m_sub [(0, (2, ((2514 : Nat) : Int))), (1, (0, (k + 1))), (2, (0, nu)), (3, (0, ic)), (4, (0, bz)), (5, (0, gd)), (6, (0, mo)), (7, (0, ka)), (8, (0, (((10 * vv) + (Sg9 hm k)) - 48)))] (List.forall_mem_cons.mpr ⟨rfl, List.forall_mem_cons.mpr ⟨rfl, List.forall_mem_cons.mpr ⟨rfl, List.forall_mem_cons.mpr ⟨rfl, List.forall_mem_cons.mpr ⟨rfl, List.forall_mem_cons.mpr ⟨rfl, List.forall_mem_cons.mpr ⟨rfl, List.forall_mem_cons.mpr ⟨rfl, List.forall_mem_cons.mpr ⟨rfl, fun _ h => absurd h List.not_mem_nil⟩⟩⟩⟩⟩⟩⟩⟩⟩) ?_
                    refine ih20  ((k + 1)) ((((10 * vv) + (Sg9 hm k)) - 48)) ?_ ?_ ?_
                    · omega
                    · omega
                    · omega
          refine m_sub [(0, (2, ((2514 : Nat) : Int))), (1, (0, ka)), (2, (0, nu)), (3, (0, ic)), (4, (0, bz)), (5, (0, gd)), (6, (0, mo)), (7, (0, ka)), (8, (0, 0))] (List.forall_mem_cons.mpr ⟨rfl, List.forall_mem_cons.mpr ⟨rfl, List.forall_mem_cons.mpr ⟨rfl, List.forall_mem_cons.mpr ⟨rfl, List.forall_mem_cons.mpr ⟨rfl, List.forall_mem_cons.mpr ⟨rfl, List.forall_mem_cons.mpr ⟨rfl, List.forall_mem_cons.mpr ⟨rfl, List.forall_mem_cons.mpr ⟨rfl, fun _ h => absurd h List.not_mem_nil⟩⟩⟩⟩⟩⟩⟩⟩⟩) ?_
          refine lp20 ((z0 - (ka)) + 1).toNat (ka) (0) ?_ ?_ ?_
          · omega
          · omega
          · omega
  refine m_sub [(0, (2, ((2514 : Nat) : Int))), (1, (0, 0)), (2, (0, 0)), (3, (0, 0)), (4, (0, 1)), (5, (0, 1)), (6, (0, 1))] (List.forall_mem_cons.mpr ⟨rfl, List.forall_mem_cons.mpr ⟨rfl, List.forall_mem_cons.mpr ⟨rfl, List.forall_mem_cons.mpr ⟨rfl, List.forall_mem_cons.mpr ⟨rfl, List.forall_mem_cons.mpr ⟨rfl, List.forall_mem_cons.mpr ⟨rfl, fun _ h => absurd h List.not_mem_nil⟩⟩⟩⟩⟩⟩⟩) ?_
  refine lp12 ((z0 - (0) + (1)) + 1).toNat (0) (0) (0) (1) (1) (1) h g ?_ ?_ ?_ ?_ ?_ ?_ ?_ ?_ ?_ ?_
  · exact oo
  · exact jj
  · exact e24
  · omega
  · omega
  · omega
  · omega
  · omega
  · omega
  · omega
