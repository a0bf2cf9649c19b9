set_option maxRecDepth 20000 in
set_option maxHeartbeats 8000000 in
theorem h_X19_common {h : MH} {a b : Int} (ha : 0 < a) (hb : 0 ≤ b) (g : Str t19 r19 h) : MCal KX19_common yX19_common 0 0 [(1, a), (1, b)] h (mRL fun v h' => v = gi a b ∧ h' = h) := by
  refine MCal.ofMW (Or.inl rfl) ⟨cp_X19, rfl⟩ (Nat.le_of_ble_eq_true rfl) ?_
  generalize eQ : (mRL fun v h' => v = gi a b ∧ h' = h : MO → MH → Prop) = Q
  change MW KX19_common Q 0 0 (pcA pgX19_common 0) [(0, (1, a)), (2, (1, b))] [] h
  refine hd_locL (i := 0) rfl (fun ra => ?_)
  refine hd_locL (i := 2) rfl (fun rb => ?_)
  refine hd_lload pkX19_common rfl rfl ?_
  refine hd_lstore pkX19_common rfl rfl ?_
  change MW _ _ _ _ _ [(4, (1, a)), (0, (1, a)), (2, (1, b))] _ _
  refine hd_lload pkX19_common rfl rfl ?_
  refine hd_lstore pkX19_common rfl rfl ?_
  change MW _ _ _ _ _ [(6, (1, b)), (4, (1, a)), (0, (1, a)), (2, (1, b))] _ _
  have lp4 : ∀ (N4 : Nat) (x y : Int), (0 < x) → (0 ≤ y) → (gi x y = gi a b) → y < (N4 : Int) → MW KX19_common Q 0 0 (pcA pgX19_common 4) [(0, (1, a)), (2, (1, b)), (4, (1, x)), (6, (1, y))] [] h := by
    intro N4
    induction N4 with
    | zero => intro x y x0 y0 xy hm4; exfalso; omega
    | succ N4 ih4 =>
      intro x y x0 y0 xy hm4
      refine hd_locL (i := 6) rfl (fun ry => ?_)
      refine hd_lload pkX19_common rfl rfl ?_
      refine hd_lpush (z := 0) pkX19_common rfl ?_
      refine hd_lc_le pkX19_common rfl (fun c1 => ?_) (fun c1 => ?_)
      · skip
        refine hd_lload pkX19_common rfl rfl ?_
        refine hd_lret pkX19_common rfl ?_
        subst eQ
        have y9 : y = 0 := by omega
        rw [y9, gi_zero (by omega)] at xy
        exact ⟨rfl, rfl, xy, rfl⟩
      · skip
        refine hd_lload pkX19_common rfl rfl ?_
        refine hd_lload pkX19_common rfl rfl ?_
        refine hd_lrem pkX19_common rfl (by omega) (by rw [(emod_of (by omega) (by omega)).1]; have := (emod_of (x := x) (y := y) (by omega) (by omega)).2; omega) ?_
        refine hd_lstore pkX19_common rfl rfl ?_
        change MW _ _ _ _ _ [(8, (1, (Int.tmod x y))), (0, (1, a)), (2, (1, b)), (4, (1, x)), (6, (1, y))] _ _
        refine hd_lload pkX19_common rfl rfl ?_
        refine hd_lstore pkX19_common rfl rfl ?_
        change MW _ _ _ _ _ [(4, (1, y)), (8, (1, (Int.tmod x y))), (0, (1, a)), (2, (1, b)), (6, (1, y))] _ _
        refine hd_lload pkX19_common rfl rfl ?_
        refine hd_lstore pkX19_common rfl rfl ?_
        change MW _ _ _ _ _ [(6, (1, (Int.tmod x y))), (4, (1, y)), (8, (1, (Int.tmod x y))), (0, (1, a)), (2, (1, b))] _ _
        refine hd_goto pkX19_common rfl ?_
        refine m_sub [(0, (1, a)), (2, (1, b)), (4, (1, y)), (6, (1, (Int.tmod x y)))] (List.forall_mem_cons.mpr ⟨rfl, List.forall_mem_cons.mpr ⟨rfl, List.forall_mem_cons.mpr ⟨rfl, List.forall_mem_cons.mpr ⟨rfl, fun _ h => absurd h List.not_mem_nil⟩⟩⟩⟩) ?_
        refine ih4  (y) ((Int.tmod x y)) ?_ ?_ ?_ ?_
        · omega
        · rw [(emod_of (by omega) (by omega)).1]
          exact (emod_of (x := x) (y := y) (by omega) (by omega)).2.1
        · rw [(emod_of (by omega) (by omega)).1, gi_mod]
          exact xy
        · (rw [(emod_of (by omega) (by omega)).1]; have := (emod_of (x := x) (y := y) (by omega) (by omega)).2.2; omega)
  refine m_sub [(0, (1, a)), (2, (1, b)), (4, (1, a)), (6, (1, b))] (List.forall_mem_cons.mpr ⟨rfl, List.forall_mem_cons.mpr ⟨rfl, List.forall_mem_cons.mpr ⟨rfl, List.forall_mem_cons.mpr ⟨rfl, fun _ h => absurd h List.not_mem_nil⟩⟩⟩⟩) ?_
  refine lp4 (((b)) + 1).toNat (a) (b) ?_ ?_ ?_ ?_
  · omega
  · omega
  · rfl
  · omega
set_option maxRecDepth 20000 in
set_option maxHeartbeats 8000000 in
theorem h_X19_forget {h : MH}  (g : Str t19 r19 h) : MCal KX19_forget yX19_forget 0 0 [(2, ((2514 : Nat) : Int))] h (mRV fun h' => Only [2514] h h' ∧ (∀ j : Int, 0 ≤ j → j ≠ 13 → j ≠ 17 → ga h' 2514 j = ga h 2514 j) ∧ ga h' 2514 13 = 0 ∧ ga h' 2514 17 = -1 ∧ Str t19 r19 h') := by
  refine MCal.ofMW (Or.inl rfl) ⟨cp_X19, rfl⟩ (Nat.le_of_ble_eq_true rfl) ?_
  generalize eQ : (mRV fun h' => Only [2514] h h' ∧ (∀ j : Int, 0 ≤ j → j ≠ 13 → j ≠ 17 → ga h' 2514 j = ga h 2514 j) ∧ ga h' 2514 13 = 0 ∧ ga h' 2514 17 = -1 ∧ Str t19 r19 h' : MO → MH → Prop) = Q
  change MW KX19_forget Q 0 0 (pcA pgX19_forget 0) [(0, (2, ((2514 : Nat) : Int)))] [] h
  refine hd_aload pkX19_forget rfl rfl (Int.natCast_nonneg _) ?_
  refine hd_ipush (z := 0) pkX19_forget rfl ?_
  refine hd_putZ pkX19_forget rfl (g.cell 0 rfl).1 (g.cell 0 rfl).2.1 (by omega) (fun hh1 ehh1 => ?_)
  have ghh1 : Str t19 r19 hh1 := by rw [ehh1]; exact g.setF rfl
  have o1 := Only.wr ehh1
  have f1 : ∀ j : Int, 0 ≤ j → j ≠ 13 → ga hh1 2514 j = ga h 2514 j := fun j a b => (ga_wr ehh1 (by decide) a).trans (if_neg b)
  have v1 : ga hh1 2514 13 = 0 := (ga_wr ehh1 (by decide) (by decide)).trans (if_pos rfl)
  refine hd_aload pkX19_forget rfl rfl (Int.natCast_nonneg _) ?_
  refine hd_ipush (z := (-1)) pkX19_forget rfl ?_
  refine hd_putI pkX19_forget rfl (ghh1.cell 0 rfl).1 (ghh1.cell 0 rfl).2.1 (fun hh2 ehh2 => ?_)
  have ghh2 : Str t19 r19 hh2 := by rw [ehh2]; exact ghh1.setF rfl
  have o2 := o1.trans (Only.wr ehh2)
  have f2 : ∀ j : Int, 0 ≤ j → j ≠ 13 → j ≠ 17 → ga hh2 2514 j = ga h 2514 j := fun j a b c => ((ga_wr ehh2 (by decide) a).trans (if_neg c)).trans (f1 j a b)
  have v2 : ga hh2 2514 13 = 0 := ((ga_wr ehh2 (by decide) (by decide)).trans (if_neg (by decide))).trans v1
  have v3 : ga hh2 2514 17 = -1 := (ga_wr ehh2 (by decide) (by decide)).trans (if_pos rfl)
  refine hd_vret pkX19_forget rfl ?_
  subst eQ
  exact ⟨rfl, o2, f2, v2, v3, ghh2⟩
