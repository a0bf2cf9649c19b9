/-! X1 by hand: trim, rows, products -/
set_option maxRecDepth 20000 in
set_option maxHeartbeats 8000000 in
theorem h_X1_trim {h : MH} {o W : Nat} (o4 : 3 ≤ o) (W9 : W ≤ 1000) {t : Int} (t0 : 0 ≤ t ∧ t ≤ (W : Int)) (g : G1 [(o, W)] h) : MCal KX1_trim yX1_trim 0 0 [(2, ((o : Nat) : Int)), (0, t)] h (mRV fun h' => Only [o] h h' ∧ G1 [(o, W)] h' ∧ TR1 h h' o t) := by
  refine MCal.ofMW (Or.inl rfl) ⟨cp_X1, rfl⟩ (Nat.le_of_ble_eq_true rfl) ?_
  generalize eQ : (mRV fun h' => Only [o] h h' ∧ G1 [(o, W)] h' ∧ TR1 h h' o t : MO → MH → Prop) = Q
  change MW KX1_trim Q 0 0 (pcA pgX1_trim 0) [(0, (2, ((o : Nat) : Int))), (1, (0, t))] [] h
  refine hd_locI (i := 1) rfl (fun rt => ?_)
  have nx_o : ∀ qq ∈ ([(o, W)] : List (Nat × Nat)), ¬ o + 1 = qq.1 := fun qq hq => by
    simp only [List.mem_cons, List.not_mem_nil, or_false] at hq
    rcases hq with rfl <;> (dsimp only; omega)
  refine hd_aload pkX1_trim rfl rfl (Int.natCast_nonneg _) ?_
  refine hd_iload pkX1_trim rfl rfl ?_
  refine hd_putI pkX1_trim rfl (g.ob 0 rfl).1 (g.ob 0 rfl).2.1 (fun hh1 ehh1 => ?_)
  replace ehh1 : hh1 = sa h o 1 t := ehh1
  have ghh1 : G1 [(o, W)] hh1 := by rw [ehh1]; exact g.set (by decide) (fun _ _ _ => by decide)
  have o1 : Only [o] h hh1 := by rw [ehh1]; exact (Only.refl _ _).set List.mem_cons_self
  have e1 : ga hh1 o 1 = t := by rw [ehh1, ga_sa _ _ _ (by decide) (by decide), if_pos rfl]
  have e2 : ga hh1 o 2 = ga h o 2 := by rw [ehh1, ga_sa _ _ _ (by decide) (by decide), if_neg (by decide)]
  have lp3 : ∀ (N3 : Nat) (k : Int) (hT : MH), G1 [(o, W)] hT → (Only [o] h hT) → (ga hT o 1 = k) → (0 ≤ k ∧ k ≤ t) → (∀ j : Int, k ≤ j → j < t → ga h (o + 1) j = 0) → (ga hT o 2 = ga h o 2) → k < (N3 : Int) → MW KX1_trim Q 0 0 (pcA pgX1_trim 3) [(0, (2, ((o : Nat) : Int))), (1, (0, t))] [] hT := by
    intro N3
    induction N3 with
    | zero => intro k hT g3 hO ek k0 kz s2 hm3; exfalso; omega
    | succ N3 ih3 =>
      intro k hT g3 hO ek k0 kz s2 hm3
      refine hd_aload pkX1_trim rfl rfl (Int.natCast_nonneg _) ?_
      refine hd_getI pkX1_trim rfl (g3.ob 0 rfl).1 (g3.ob 0 rfl).2.1 (fun v2 ev2 rv2 => ?_)
      replace ev2 : v2 = ga hT o 1 := ev2
      have qv2 : k = v2 := by rw [ev2]; exact ek.symm
      subst qv2
      refine hd_if_le pkX1_trim rfl (fun c3 => ?_) (fun c3 => ?_)
      · skip
        refine hd_aload pkX1_trim rfl rfl (Int.natCast_nonneg _) ?_
        refine hd_getI pkX1_trim rfl (g3.ob 0 rfl).1 (g3.ob 0 rfl).2.1 (fun v4 ev4 rv4 => ?_)
        replace ev4 : v4 = ga hT o 1 := ev4
        have qv4 : k = v4 := by rw [ev4]; exact ek.symm
        subst qv4
        refine hd_if_ne pkX1_trim rfl (fun c5 => ?_) (fun c5 => ?_)
        · skip
          refine hd_vret pkX1_trim rfl ?_
          subst eQ
          refine ⟨rfl, hO, g3, by rw [ek]; exact k0, by rw [ek]; exact kz, fun q => ?_, ?_⟩
          · rw [ek] at q ⊢
            first | omega | (intro w; omega)
          · rw [ek, if_neg (by omega)]
            exact s2
        · skip
          refine hd_aload pkX1_trim rfl rfl (Int.natCast_nonneg _) ?_
          refine hd_ipush (z := 0) pkX1_trim rfl ?_
          refine hd_putI pkX1_trim rfl (g3.ob 0 rfl).1 (g3.ob 0 rfl).2.1 (fun hh6 ehh6 => ?_)
          replace ehh6 : hh6 = sa hT o 2 0 := ehh6
          have ghh6 : G1 [(o, W)] hh6 := by rw [ehh6]; exact g3.set (by decide) (fun _ _ _ => by decide)
          have o5 : Only [o] h hh6 := by rw [ehh6]; exact hO.set List.mem_cons_self
          have e5 : ga hh6 o 1 = k := by rw [ehh6, ga_sa _ _ _ (by decide) (by decide), if_neg (by decide)]; exact ek
          have e6 : ga hh6 o 2 = 0 := by rw [ehh6, ga_sa _ _ _ (by decide) (by decide), if_pos rfl]
          refine hd_vret pkX1_trim rfl ?_
          subst eQ
          refine ⟨rfl, o5, ghh6, by rw [e5]; exact k0, by rw [e5]; exact kz, fun q => ?_, ?_⟩
          · rw [e5] at q
            omega
          · rw [e5, if_pos (by omega)]
            exact e6
      · skip
        refine hd_aload pkX1_trim rfl rfl (Int.natCast_nonneg _) ?_
        refine hd_getR (n := o + 1) pkX1_trim rfl (g3.ob 0 rfl).1 (g3.ob 0 rfl).2.1 (g3.rf 0 rfl) ?_
        refine hd_aload pkX1_trim rfl rfl (Int.natCast_nonneg _) ?_
        refine hd_getI pkX1_trim rfl (g3.ob 0 rfl).1 (g3.ob 0 rfl).2.1 (fun v7 ev7 rv7 => ?_)
        replace ev7 : v7 = ga hT o 1 := ev7
        have qv7 : k = v7 := by rw [ev7]; exact ek.symm
        subst qv7
        refine hd_ipush (z := 1) pkX1_trim rfl ?_
        refine hd_isub pkX1_trim rfl (by omega) ?_
        refine hd_iald (n := W) pkX1_trim rfl (g3.ar 0 rfl) (by omega) (by omega) (fun v8 ev8 rv8 => ?_)
        have ed : v8 = ga h (o + 1) (k - 1) := by rw [ev8]; exact hO.ga (by simp only [List.mem_cons, List.not_mem_nil, or_false, not_or]; omega) _
        refine hd_if_ne pkX1_trim rfl (fun c9 => ?_) (fun c9 => ?_)
        · skip
          refine hd_aload pkX1_trim rfl rfl (Int.natCast_nonneg _) ?_
          refine hd_getI pkX1_trim rfl (g3.ob 0 rfl).1 (g3.ob 0 rfl).2.1 (fun v10 ev10 rv10 => ?_)
          replace ev10 : v10 = ga hT o 1 := ev10
          have qv10 : k = v10 := by rw [ev10]; exact ek.symm
          subst qv10
          refine hd_if_ne pkX1_trim rfl (fun c11 => ?_) (fun c11 => ?_)
          · skip
            refine hd_vret pkX1_trim rfl ?_
            subst eQ
            refine ⟨rfl, hO, g3, by rw [ek]; exact k0, by rw [ek]; exact kz, fun q => ?_, ?_⟩
            · rw [ek] at q ⊢
              first | omega | (intro w; omega)
            · rw [ek, if_neg (by omega)]
              exact s2
          · skip
            refine hd_aload pkX1_trim rfl rfl (Int.natCast_nonneg _) ?_
            refine hd_ipush (z := 0) pkX1_trim rfl ?_
            refine hd_putI pkX1_trim rfl (g3.ob 0 rfl).1 (g3.ob 0 rfl).2.1 (fun hh12 ehh12 => ?_)
            replace ehh12 : hh12 = sa hT o 2 0 := ehh12
            have ghh12 : G1 [(o, W)] hh12 := by rw [ehh12]; exact g3.set (by decide) (fun _ _ _ => by decide)
            have o5 : Only [o] h hh12 := by rw [ehh12]; exact hO.set List.mem_cons_self
            have e5 : ga hh12 o 1 = k := by rw [ehh12, ga_sa _ _ _ (by decide) (by decide), if_neg (by decide)]; exact ek
            have e6 : ga hh12 o 2 = 0 := by rw [ehh12, ga_sa _ _ _ (by decide) (by decide), if_pos rfl]
            refine hd_vret pkX1_trim rfl ?_
            subst eQ
            refine ⟨rfl, o5, ghh12, by rw [e5]; exact k0, by rw [e5]; exact kz, fun q => ?_, ?_⟩
            · rw [e5] at q
              omega
            · rw [e5, if_pos (by omega)]
              exact e6
        · skip
          refine hd_aload pkX1_trim rfl rfl (Int.natCast_nonneg _) ?_
          refine hd_dup pkX1_trim rfl rfl ?_
          refine hd_getI pkX1_trim rfl (g3.ob 0 rfl).1 (g3.ob 0 rfl).2.1 (fun v13 ev13 rv13 => ?_)
          replace ev13 : v13 = ga hT o 1 := ev13
          have qv13 : k = v13 := by rw [ev13]; exact ek.symm
          subst qv13
          refine hd_ipush (z := 1) pkX1_trim rfl ?_
          refine hd_isub pkX1_trim rfl (by omega) ?_
          refine hd_putI pkX1_trim rfl (g3.ob 0 rfl).1 (g3.ob 0 rfl).2.1 (fun hh14 ehh14 => ?_)
          replace ehh14 : hh14 = sa hT o 1 (k - 1) := ehh14
          have ghh14 : G1 [(o, W)] hh14 := by rw [ehh14]; exact g3.set (by decide) (fun _ _ _ => by decide)
          have o3 : Only [o] h hh14 := by rw [ehh14]; exact hO.set List.mem_cons_self
          have e3 : ga hh14 o 1 = k - 1 := by rw [ehh14, ga_sa _ _ _ (by decide) (by decide), if_pos rfl]
          have e4 : ga hh14 o 2 = ga h o 2 := by rw [ehh14, ga_sa _ _ _ (by decide) (by decide), if_neg (by decide)]; exact s2
          refine hd_goto pkX1_trim rfl ?_
          refine ih3  (k - 1) hh14 ghh14 ?_ ?_ ?_ ?_ ?_ ?_
          · exact o3
          · exact e3
          · omega
          · intro j a b
            by_cases q : j = k - 1
            · rw [q]
              omega
            · exact kz j (by omega) b
          · exact e4
          · omega
  refine lp3 (((t)) + 1).toNat (t) hh1 ghh1 ?_ ?_ ?_ ?_ ?_ ?_
  · exact o1
  · exact e1
  · omega
  · intro j a b
    omega
  · exact e2
  · omega
set_option maxRecDepth 20000 in
set_option maxHeartbeats 8000000 in
theorem h_X1_addRow {h : MH} {o W a A : Nat} (o4 : 3 ≤ o) (W9 : W ≤ 1000) (a4 : 3 ≤ a) (A9 : A ≤ 1000) {l p n : Int} (oa : o + 1 < a ∨ a + 1 < o) (lb : 0 ≤ l ∧ l ≤ 1073741823) (p0 : 0 ≤ p) (la : ga h a 1 = n) (nA : 0 ≤ n ∧ n ≤ (A : Int)) (np : n + p < (W : Int)) (d0 : Dg1 (ga h (o + 1)) 1099511627776) (da : Dg1 (ga h (a + 1)) 1099511627776) (z0 : ga h (o + 1) (n + p) = 0) (g : G1 [(o, W), (a, A)] h) : MCal KX1_addRow yX1_addRow 0 0 [(2, ((o : Nat) : Int)), (2, ((a : Nat) : Int)), (1, l), (0, p)] h (mRV fun h' => Only [o + 1] h h' ∧ G1 [(o, W), (a, A)] h' ∧ Dg1 (ga h' (o + 1)) 1099511627776 ∧ nv1 (ga h' (o + 1)) (n + p + 1).toNat = nv1 (ga h (o + 1)) (n + p).toNat + l * (nv1 (ga h (a + 1)) n.toNat * 1073741824 ^ p.toNat) ∧ ∀ j : Int, n + p < j → ga h' (o + 1) j = ga h (o + 1) j) := by
  refine MCal.ofMW (Or.inl rfl) ⟨cp_X1, rfl⟩ (Nat.le_of_ble_eq_true rfl) ?_
  generalize eQ : (mRV fun h' => Only [o + 1] h h' ∧ G1 [(o, W), (a, A)] h' ∧ Dg1 (ga h' (o + 1)) 1099511627776 ∧ nv1 (ga h' (o + 1)) (n + p + 1).toNat = nv1 (ga h (o + 1)) (n + p).toNat + l * (nv1 (ga h (a + 1)) n.toNat * 1073741824 ^ p.toNat) ∧ ∀ j : Int, n + p < j → ga h' (o + 1) j = ga h (o + 1) j : MO → MH → Prop) = Q
  change MW KX1_addRow Q 0 0 (pcA pgX1_addRow 0) [(0, (2, ((o : Nat) : Int))), (1, (2, ((a : Nat) : Int))), (2, (1, l)), (4, (0, p))] [] h
  refine hd_locL (i := 2) rfl (fun rl => ?_)
  refine hd_locI (i := 4) rfl (fun rp => ?_)
  have nx_o : ∀ qq ∈ ([(o, W), (a, A)] : List (Nat × Nat)), ¬ o + 1 = qq.1 := fun qq hq => by
    simp only [List.mem_cons, List.not_mem_nil, or_false] at hq
    rcases hq with rfl | rfl <;> (dsimp only; omega)
  refine hd_lload pkX1_addRow rfl rfl ?_
  refine hd_lpush (z := 0) pkX1_addRow rfl ?_
  refine hd_lc_ne pkX1_addRow rfl (fun c1 => ?_) (fun c1 => ?_)
  · skip
    refine hd_lpush (z := 0) pkX1_addRow rfl ?_
    refine hd_lstore pkX1_addRow rfl rfl ?_
    change MW _ _ _ _ _ [(5, (1, 0)), (0, (2, ((o : Nat) : Int))), (1, (2, ((a : Nat) : Int))), (2, (1, l)), (4, (0, p))] _ _
    refine hd_aload pkX1_addRow rfl rfl (Int.natCast_nonneg _) ?_
    refine hd_getI pkX1_addRow rfl (g.ob 1 rfl).1 (g.ob 1 rfl).2.1 (fun v2 ev2 rv2 => ?_)
    replace ev2 : v2 = ga h a 1 := ev2
    have qv2 : n = v2 := by rw [ev2]; exact la.symm
    subst qv2
    refine hd_iload pkX1_addRow rfl rfl ?_
    refine hd_iadd pkX1_addRow rfl (by omega) ?_
    refine hd_aload pkX1_addRow rfl rfl (Int.natCast_nonneg _) ?_
    refine hd_getR (n := o + 1) pkX1_addRow rfl (g.ob 0 rfl).1 (g.ob 0 rfl).2.1 (g.rf 0 rfl) ?_
    refine hd_alen (n := W) (k := 0) pkX1_addRow rfl (g.ar 0 rfl) (by decide) (by omega) ?_
    refine hd_imin pkX1_addRow rfl (Nat.le_of_ble_eq_true rfl) (fun en aen ben cen => ?_)
    have en9 : en = n + p := by omega
    subst en9
    refine hd_istore pkX1_addRow rfl rfl ?_
    change MW _ _ _ _ _ [(7, (0, (n + p))), (5, (1, 0)), (0, (2, ((o : Nat) : Int))), (1, (2, ((a : Nat) : Int))), (2, (1, l)), (4, (0, p))] _ _
    refine hd_iload pkX1_addRow rfl rfl ?_
    refine hd_istore pkX1_addRow rfl rfl ?_
    change MW _ _ _ _ _ [(8, (0, p)), (7, (0, (n + p))), (5, (1, 0)), (0, (2, ((o : Nat) : Int))), (1, (2, ((a : Nat) : Int))), (2, (1, l)), (4, (0, p))] _ _
    have lp18 : ∀ (N18 : Nat) (ca i : Int) (hI : MH), G1 [(o, W), (a, A)] hI → (Only [o + 1] h hI) → (p ≤ i ∧ i ≤ n + p) → (0 ≤ ca ∧ ca ≤ 1073741823) → (Dg1 (ga hI (o + 1)) 1099511627776) → (∀ j : Int, i ≤ j → ga hI (o + 1) j = ga h (o + 1) j) → (nv1 (ga hI (o + 1)) i.toNat + ca * 1073741824 ^ i.toNat = nv1 (ga h (o + 1)) i.toNat + l * (nv1 (ga h (a + 1)) (i - p).toNat * 1073741824 ^ p.toNat)) → n + p - i < (N18 : Int) → MW KX1_addRow Q 0 0 (pcA pgX1_addRow 18) [(0, (2, ((o : Nat) : Int))), (1, (2, ((a : Nat) : Int))), (2, (1, l)), (4, (0, p)), (5, (1, ca)), (7, (0, (n + p))), (8, (0, i))] [] hI := by
      intro N18
      induction N18 with
      | zero => intro ca i hI g18 hO i0 cb dg hi eq hm18; exfalso; omega
      | succ N18 ih18 =>
        intro ca i hI g18 hO i0 cb dg hi eq hm18
        refine hd_iload pkX1_addRow rfl rfl ?_
        refine hd_iload pkX1_addRow rfl rfl ?_
        refine hd_ic_ge pkX1_addRow rfl (fun c3 => ?_) (fun c3 => ?_)
        · skip
          refine hd_iload pkX1_addRow rfl rfl ?_
          refine hd_aload pkX1_addRow rfl rfl (Int.natCast_nonneg _) ?_
          refine hd_getR (n := o + 1) pkX1_addRow rfl (g18.ob 0 rfl).1 (g18.ob 0 rfl).2.1 (g18.rf 0 rfl) ?_
          refine hd_alen (n := W) (k := 0) pkX1_addRow rfl (g18.ar 0 rfl) (by decide) (by omega) ?_
          refine hd_ic_ge pkX1_addRow rfl (fun c4 => ?_) (fun c4 => ?_)
          · skip
            refine hd_vret pkX1_addRow rfl ?_
            exfalso
            omega
          · skip
            refine hd_aload pkX1_addRow rfl rfl (Int.natCast_nonneg _) ?_
            refine hd_getR (n := o + 1) pkX1_addRow rfl (g18.ob 0 rfl).1 (g18.ob 0 rfl).2.1 (g18.rf 0 rfl) ?_
            refine hd_iload pkX1_addRow rfl rfl ?_
            refine hd_lload pkX1_addRow rfl rfl ?_
            refine hd_l2i pkX1_addRow rfl (by omega) ?_
            refine hd_iast (n := W) pkX1_addRow rfl (g18.ar 0 rfl) (by omega) (by omega) (by omega) (fun hh5 ehh5 => ?_)
            have ghh5 : G1 [(o, W), (a, A)] hh5 := by rw [ehh5]; exact g18.set (by omega) (fun qq hq w => absurd w (nx_o qq hq))
            have o4 : Only [o + 1] h hh5 := by rw [ehh5]; exact hO.set List.mem_cons_self
            have f4 : ∀ j : Int, 0 ≤ j → ga hh5 (o + 1) j = if j = n + p then ca else ga hI (o + 1) j := fun j a => by rw [ehh5]; exact ga_sa _ _ _ (by omega) a
            refine hd_vret pkX1_addRow rfl ?_
            subst eQ
            have ei : i = n + p := by omega
            subst ei
            refine ⟨rfl, o4, ghh5, fun j a b => ?_, ?_, fun j a => ?_⟩
            · rw [f4 j a]
              split
              · omega
              · exact dg j a b
            · rw [show (n + p + 1).toNat = (n + p).toNat + 1 by omega]
              show nv1 (ga hh5 (o + 1)) (n + p).toNat + ga hh5 (o + 1) ((n + p).toNat : Int) * _ = _
              rw [show ((n + p).toNat : Int) = n + p by omega, f4 (n + p) (by omega), if_pos rfl, nv1_cg (f := ga hh5 (o + 1)) (g := ga hI (o + 1)) (fun j a b => by rw [f4 j a, if_neg (by omega)]), eq, show n + p - p = n by omega]
            · rw [f4 j (by omega), if_neg (by omega)]
              exact hi j (by omega)
        · skip
          refine hd_aload pkX1_addRow rfl rfl (Int.natCast_nonneg _) ?_
          refine hd_getR (n := o + 1) pkX1_addRow rfl (g18.ob 0 rfl).1 (g18.ob 0 rfl).2.1 (g18.rf 0 rfl) ?_
          refine hd_iload pkX1_addRow rfl rfl ?_
          refine hd_iald (n := W) pkX1_addRow rfl (g18.ar 0 rfl) (by omega) (by omega) (fun v6 ev6 rv6 => ?_)
          obtain ⟨dd, qv6⟩ : ∃ x : Int, x = v6 := ⟨_, rfl⟩
          have dv : dd = ga h (o + 1) i := (qv6.trans ev6).trans (hi i (Int.le_refl _))
          have db : 0 ≤ dd ∧ dd ≤ 1073741823 := by rw [qv6, ev6]; exact dg i (by omega) (by omega)
          subst qv6
          refine hd_i2l pkX1_addRow rfl ?_
          refine hd_aload pkX1_addRow rfl rfl (Int.natCast_nonneg _) ?_
          refine hd_getR (n := a + 1) pkX1_addRow rfl (g18.ob 1 rfl).1 (g18.ob 1 rfl).2.1 (g18.rf 1 rfl) ?_
          refine hd_iload pkX1_addRow rfl rfl ?_
          refine hd_iload pkX1_addRow rfl rfl ?_
          refine hd_isub pkX1_addRow rfl (by omega) ?_
          refine hd_iald (n := A) pkX1_addRow rfl (g18.ar 1 rfl) (by omega) (by omega) (fun v7 ev7 rv7 => ?_)
          obtain ⟨aa, qv7⟩ : ∃ x : Int, x = v7 := ⟨_, rfl⟩
          have av : aa = ga h (a + 1) (i - p) := (qv7.trans ev7).trans (hO.ga (by simp only [List.mem_cons, List.not_mem_nil, or_false, not_or]; omega) _)
          have ab : 0 ≤ aa ∧ aa ≤ 1073741823 := by rw [av]; exact da (i - p) (by omega) (by omega)
          have al : 0 ≤ aa * l ∧ aa * l ≤ 1073741823 * 1073741823 := ⟨Int.mul_nonneg ab.1 lb.1, Int.mul_le_mul ab.2 lb.2 lb.1 (by decide)⟩
          subst qv7
          refine hd_i2l pkX1_addRow rfl ?_
          refine hd_lload pkX1_addRow rfl rfl ?_
          refine hd_lmul pkX1_addRow rfl (by omega) ?_
          refine hd_ladd pkX1_addRow rfl (by omega) ?_
          refine hd_lload pkX1_addRow rfl rfl ?_
          refine hd_ladd pkX1_addRow rfl (by omega) ?_
          generalize et9 : ((dd + (aa * l)) + ca) = t9
          refine hd_lstore pkX1_addRow rfl rfl ?_
          change MW _ _ _ _ _ [(9, (1, t9)), (0, (2, ((o : Nat) : Int))), (1, (2, ((a : Nat) : Int))), (2, (1, l)), (4, (0, p)), (5, (1, ca)), (7, (0, (n + p))), (8, (0, i))] _ _
          refine hd_aload pkX1_addRow rfl rfl (Int.natCast_nonneg _) ?_
          refine hd_getR (n := o + 1) pkX1_addRow rfl (g18.ob 0 rfl).1 (g18.ob 0 rfl).2.1 (g18.rf 0 rfl) ?_
          refine hd_iload pkX1_addRow rfl rfl ?_
          refine hd_lload pkX1_addRow rfl rfl ?_
          refine hd_lpush (z := 1073741823) pkX1_addRow rfl ?_
          refine hd_land (v := (t9 % 1073741824)) pkX1_addRow rfl (by exact h_and30 _) ?_
          refine hd_l2i pkX1_addRow rfl (by omega) ?_
          refine hd_iast (n := W) pkX1_addRow rfl (g18.ar 0 rfl) (by omega) (by omega) (by omega) (fun hh8 ehh8 => ?_)
          have ghh8 : G1 [(o, W), (a, A)] hh8 := by rw [ehh8]; exact g18.set (by omega) (fun qq hq w => absurd w (nx_o qq hq))
          have o2 : Only [o + 1] h hh8 := by rw [ehh8]; exact hO.set List.mem_cons_self
          have f2 : ∀ j : Int, 0 ≤ j → ga hh8 (o + 1) j = if j = i then t9 % 1073741824 else ga hI (o + 1) j := fun j a => by rw [ehh8]; exact ga_sa _ _ _ (by omega) a
          refine hd_lload pkX1_addRow rfl rfl ?_
          refine hd_ipush (z := 30) pkX1_addRow rfl ?_
          refine hd_lshr (v := (t9 / 1073741824)) pkX1_addRow rfl (by exact h_shr30 (by omega)) ?_
          refine hd_lstore pkX1_addRow rfl rfl ?_
          change MW _ _ _ _ _ [(5, (1, (t9 / 1073741824))), (9, (1, t9)), (0, (2, ((o : Nat) : Int))), (1, (2, ((a : Nat) : Int))), (2, (1, l)), (4, (0, p)), (7, (0, (n + p))), (8, (0, i))] _ _
          refine hd_iinc (z := 1) pkX1_addRow rfl rfl (by omega) rfl ?_
          change MW _ _ _ _ _ [(8, (0, (i + 1))), (5, (1, (t9 / 1073741824))), (9, (1, t9)), (0, (2, ((o : Nat) : Int))), (1, (2, ((a : Nat) : Int))), (2, (1, l)), (4, (0, p)), (7, (0, (n + p)))] _ _
          refine hd_goto pkX1_addRow rfl ?_
          refine m_sub [(0, (2, ((o : Nat) : Int))), (1, (2, ((a : Nat) : Int))), (2, (1, l)), (4, (0, p)), (5, (1, (t9 / 1073741824))), (7, (0, (n + p))), (8, (0, (i + 1)))] (List.forall_mem_cons.mpr ⟨rfl, List.forall_mem_cons.mpr ⟨rfl, List.forall_mem_cons.mpr ⟨rfl, List.forall_mem_cons.mpr ⟨rfl, List.forall_mem_cons.mpr ⟨rfl, List.forall_mem_cons.mpr ⟨rfl, List.forall_mem_cons.mpr ⟨rfl, fun _ h => absurd h List.not_mem_nil⟩⟩⟩⟩⟩⟩⟩) ?_
          refine ih18  ((t9 / 1073741824)) ((i + 1)) hh8 ghh8 ?_ ?_ ?_ ?_ ?_ ?_ ?_
          · exact o2
          · omega
          · omega
          · intro j a b
            rw [f2 j a]
            split
            · omega
            · exact dg j a b
          · intro j a
            rw [f2 j (by omega), if_neg (by omega)]
            exact hi j (by omega)
          · have z := row1 (P := nv1 (ga hI (o + 1)) i.toNat) (c := ca) (d := dd) (a := aa) (l := l) (b := t9 % 1073741824) (t := t9 / 1073741824) eq (by omega)
            rw [show (i + 1).toNat = i.toNat + 1 by omega, show (i + 1 - p).toNat = (i - p).toNat + 1 by omega]
            show nv1 (ga hh8 (o + 1)) i.toNat + ga hh8 (o + 1) (i.toNat : Int) * 1073741824 ^ i.toNat + _ = nv1 (ga h (o + 1)) i.toNat + ga h (o + 1) (i.toNat : Int) * 1073741824 ^ i.toNat + l * ((nv1 (ga h (a + 1)) (i - p).toNat + ga h (a + 1) ((i - p).toNat : Int) * 1073741824 ^ (i - p).toNat) * 1073741824 ^ p.toNat)
            rw [show (i.toNat : Int) = i by omega, show ((i - p).toNat : Int) = i - p by omega, f2 i (by omega), if_pos rfl, ← dv, ← av, nv1_cg (f := ga hh8 (o + 1)) (g := ga hI (o + 1)) (fun j a b => by rw [f2 j a, if_neg (by omega)]), Int.add_mul, Int.mul_assoc aa, ← Int.pow_add, show (i - p).toNat + p.toNat = i.toNat by omega]
            exact z
          · omega
    refine m_sub [(0, (2, ((o : Nat) : Int))), (1, (2, ((a : Nat) : Int))), (2, (1, l)), (4, (0, p)), (5, (1, 0)), (7, (0, (n + p))), (8, (0, p))] (List.forall_mem_cons.mpr ⟨rfl, List.forall_mem_cons.mpr ⟨rfl, List.forall_mem_cons.mpr ⟨rfl, List.forall_mem_cons.mpr ⟨rfl, List.forall_mem_cons.mpr ⟨rfl, List.forall_mem_cons.mpr ⟨rfl, List.forall_mem_cons.mpr ⟨rfl, fun _ h => absurd h List.not_mem_nil⟩⟩⟩⟩⟩⟩⟩) ?_
    refine lp18 ((n + p - (p)) + 1).toNat (0) (p) h g ?_ ?_ ?_ ?_ ?_ ?_ ?_
    · exact Only.refl _ _
    · omega
    · omega
    · exact d0
    · intro j _
      rfl
    · rw [show (p - p).toNat = 0 by omega]
      show _ + 0 * _ = _ + l * (0 * _)
      rw [Int.zero_mul, Int.mul_zero]
    · omega
  · skip
    refine hd_vret pkX1_addRow rfl ?_
    subst eQ
    refine ⟨rfl, Only.refl _ _, g, d0, ?_, fun _ _ => rfl⟩
    have l0 : l = 0 := by omega
    rw [l0, Int.zero_mul, Int.add_zero, show (n + p + 1).toNat = (n + p).toNat + 1 by omega]
    show nv1 _ _ + ga h (o + 1) ((n + p).toNat : Int) * _ = _
    rw [show ((n + p).toNat : Int) = n + p by omega, z0, Int.zero_mul, Int.add_zero]
set_option maxRecDepth 20000 in
set_option maxHeartbeats 8000000 in
theorem h_X1_product_ {h : MH} {o W a A b B : Nat} (o4 : 3 ≤ o) (W9 : W ≤ 1000) (a4 : 3 ≤ a) (A9 : A ≤ 1000) (b4 : 3 ≤ b) (B9 : B ≤ 1000) {Va Vb : Int} (oa : o + 1 < a ∨ a + 1 < o) (ob : o + 1 < b ∨ b + 1 < o) (ba : BV1 h a A Va) (bbv : BV1 h b B Vb) (rm : ga h a 1 + ga h b 1 ≤ (W : Int)) (d0 : Dg1 (ga h (o + 1)) 1099511627776) (g : G1 [(o, W), (a, A), (b, B)] h) : MCal KX1_product_ yX1_product_ 0 0 [(2, ((o : Nat) : Int)), (2, ((a : Nat) : Int)), (2, ((b : Nat) : Int))] h (mRV fun h' => Only [o, o + 1] h h' ∧ G1 [(o, W), (a, A), (b, B)] h' ∧ BV1 h' o W (Va * Vb)) := by
  refine MCal.ofMW (Or.inl rfl) ⟨cp_X1, rfl⟩ (Nat.le_of_ble_eq_true rfl) ?_
  generalize eQ : (mRV fun h' => Only [o, o + 1] h h' ∧ G1 [(o, W), (a, A), (b, B)] h' ∧ BV1 h' o W (Va * Vb) : MO → MH → Prop) = Q
  change MW KX1_product_ Q 0 0 (pcA pgX1_product_ 0) [(0, (2, ((o : Nat) : Int))), (1, (2, ((a : Nat) : Int))), (2, (2, ((b : Nat) : Int)))] [] h
  have nx_o : ∀ qq ∈ ([(o, W), (a, A), (b, B)] : List (Nat × Nat)), ¬ o + 1 = qq.1 := fun qq hq => by
    simp only [List.mem_cons, List.not_mem_nil, or_false] at hq
    rcases hq with rfl | rfl | rfl <;> (dsimp only; omega)
  obtain ⟨n, la⟩ : ∃ n : Int, ga h a 1 = n := ⟨_, rfl⟩
  obtain ⟨m, lm⟩ : ∃ n : Int, ga h b 1 = n := ⟨_, rfl⟩
  have nA := ba.1
  have mB := bbv.1
  rw [la] at nA rm
  rw [lm] at mB rm
  have da := ba.2.1
  have db := bbv.2.1
  refine hd_aload pkX1_product_ rfl rfl (Int.natCast_nonneg _) ?_
  refine hd_getI pkX1_product_ rfl (g.ob 1 rfl).1 (g.ob 1 rfl).2.1 (fun v1 ev1 rv1 => ?_)
  replace ev1 : v1 = ga h a 1 := ev1
  have qv1 : n = v1 := by rw [ev1]; exact la.symm
  subst qv1
  refine hd_aload pkX1_product_ rfl rfl (Int.natCast_nonneg _) ?_
  refine hd_getI pkX1_product_ rfl (g.ob 2 rfl).1 (g.ob 2 rfl).2.1 (fun v2 ev2 rv2 => ?_)
  replace ev2 : v2 = ga h b 1 := ev2
  have qv2 : m = v2 := by rw [ev2]; exact lm.symm
  subst qv2
  refine hd_iadd pkX1_product_ rfl (by omega) ?_
  refine hd_aload pkX1_product_ rfl rfl (Int.natCast_nonneg _) ?_
  refine hd_getR (n := o + 1) pkX1_product_ rfl (g.ob 0 rfl).1 (g.ob 0 rfl).2.1 (g.rf 0 rfl) ?_
  refine hd_alen (n := W) (k := 0) pkX1_product_ rfl (g.ar 0 rfl) (by decide) (by omega) ?_
  refine hd_imin pkX1_product_ rfl (Nat.le_of_ble_eq_true rfl) (fun tp atp btp ctp => ?_)
  have tp9 : tp = n + m := by omega
  subst tp9
  refine hd_istore pkX1_product_ rfl rfl ?_
  change MW _ _ _ _ _ [(3, (0, (n + m))), (0, (2, ((o : Nat) : Int))), (1, (2, ((a : Nat) : Int))), (2, (2, ((b : Nat) : Int)))] _ _
  refine hd_aload pkX1_product_ rfl rfl (Int.natCast_nonneg _) ?_
  refine hd_getR (n := o + 1) pkX1_product_ rfl (g.ob 0 rfl).1 (g.ob 0 rfl).2.1 (g.rf 0 rfl) ?_
  refine hd_ipush (z := 0) pkX1_product_ rfl ?_
  refine hd_iload pkX1_product_ rfl rfl ?_
  refine hd_ipush (z := 0) pkX1_product_ rfl ?_
  refine hd_fillR (m := 57) (i := 15) (by decide) rfl (n := W) (g.ar 0 rfl) (by omega) (by omega) (by omega) (by omega) (by omega) (Nat.le_of_ble_eq_true rfl) (fun hh3 ehh3 => ?_)
  have ghh3 : G1 [(o, W), (a, A), (b, B)] hh3 := by rw [ehh3]; exact g.fill nx_o
  have oF : Only [o + 1] h hh3 := by rw [ehh3]; exact only_fill
  have fF : ∀ j : Int, 0 ≤ j → ga hh3 (o + 1) j = if j < n + m then 0 else ga h (o + 1) j := fun j a => by rw [ehh3]; exact ga_fill (by omega) a
  refine hd_ipush (z := 0) pkX1_product_ rfl ?_
  refine hd_istore pkX1_product_ rfl rfl ?_
  change MW _ _ _ _ _ [(4, (0, 0)), (3, (0, (n + m))), (0, (2, ((o : Nat) : Int))), (1, (2, ((a : Nat) : Int))), (2, (2, ((b : Nat) : Int)))] _ _
  have lp18 : ∀ (N18 : Nat) (k : Int) (hK : MH), G1 [(o, W), (a, A), (b, B)] hK → (Only [o + 1] h hK) → (0 ≤ k ∧ k ≤ m) → (Dg1 (ga hK (o + 1)) 1099511627776) → (∀ j : Int, n + k ≤ j → j < n + m → ga hK (o + 1) j = 0) → (nv1 (ga hK (o + 1)) (n + k).toNat = nv1 (ga h (a + 1)) n.toNat * nv1 (ga h (b + 1)) k.toNat) → m - k < (N18 : Int) → MW KX1_product_ Q 0 0 (pcA pgX1_product_ 18) [(0, (2, ((o : Nat) : Int))), (1, (2, ((a : Nat) : Int))), (2, (2, ((b : Nat) : Int))), (3, (0, (n + m))), (4, (0, k))] [] hK := by
    intro N18
    induction N18 with
    | zero => intro k hK g18 hO k0 dg zz eq hm18; exfalso; omega
    | succ N18 ih18 =>
      intro k hK g18 hO k0 dg zz eq hm18
      refine hd_iload pkX1_product_ rfl rfl ?_
      refine hd_aload pkX1_product_ rfl rfl (Int.natCast_nonneg _) ?_
      refine hd_getI pkX1_product_ rfl (g18.ob 2 rfl).1 (g18.ob 2 rfl).2.1 (fun v4 ev4 rv4 => ?_)
      replace ev4 : v4 = ga hK b 1 := ev4
      have qv4 : m = v4 := by rw [ev4, hO.ga (by simp only [List.mem_cons, List.not_mem_nil, or_false, not_or]; omega)]; exact lm.symm
      subst qv4
      refine hd_ic_ge pkX1_product_ rfl (fun c5 => ?_) (fun c5 => ?_)
      · skip
        refine hd_aload pkX1_product_ rfl rfl (Int.natCast_nonneg _) ?_
        refine hd_aload pkX1_product_ rfl rfl (Int.natCast_nonneg _) ?_
        refine hd_getI pkX1_product_ rfl (g18.ob 1 rfl).1 (g18.ob 1 rfl).2.1 (fun v6 ev6 rv6 => ?_)
        replace ev6 : v6 = ga hK a 2 := ev6
        have qv6 : Va.sign = v6 := by rw [ev6, hO.ga (by simp only [List.mem_cons, List.not_mem_nil, or_false, not_or]; omega)]; exact ba.2.2.2.1.symm
        subst qv6
        refine hd_aload pkX1_product_ rfl rfl (Int.natCast_nonneg _) ?_
        refine hd_getI pkX1_product_ rfl (g18.ob 2 rfl).1 (g18.ob 2 rfl).2.1 (fun v7 ev7 rv7 => ?_)
        replace ev7 : v7 = ga hK b 2 := ev7
        have qv7 : Vb.sign = v7 := by rw [ev7, hO.ga (by simp only [List.mem_cons, List.not_mem_nil, or_false, not_or]; omega)]; exact bbv.2.2.2.1.symm
        subst qv7
        refine hd_imul pkX1_product_ rfl (by have s1 := sign_b Va; have s2 := sign_b Vb; have := sign_b (Va * Vb); rw [← Int.sign_mul]; omega) ?_
        refine hd_putI pkX1_product_ rfl (g18.ob 0 rfl).1 (g18.ob 0 rfl).2.1 (fun hh8 ehh8 => ?_)
        replace ehh8 : hh8 = sa hK o 2 (Va.sign * Vb.sign) := ehh8
        have ghh8 : G1 [(o, W), (a, A), (b, B)] hh8 := by rw [ehh8]; exact g18.set (by decide) (fun _ _ _ => by decide)
        have o3 : Only [o, o + 1] h hh8 := by rw [ehh8]; exact (hO.mono (by intro c hc; simp only [List.mem_cons, List.not_mem_nil, or_false] at hc ⊢; omega)).set List.mem_cons_self
        have s3 : ga hh8 o 2 = (Va * Vb).sign := by rw [ehh8, ga_sa _ _ _ (by decide) (by decide), if_pos rfl, Int.sign_mul]
        have d3 : ga hh8 (o + 1) = ga hK (o + 1) := by funext j; rw [ehh8]; exact ga_ne _ _ _ _ (by omega) j
        obtain ⟨hS, ehS⟩ : ∃ x : MH, x = hh8 := ⟨_, rfl⟩
        rw [← ehS] at o3 s3 d3
        refine hd_aload pkX1_product_ rfl rfl (Int.natCast_nonneg _) ?_
        refine hd_iload pkX1_product_ rfl rfl ?_
        refine hd_callV pkX1_product_ rfl (q := (KX1_trim, yX1_trim, 1, 1, 0)) rfl rfl rfl (As := [(0, (n + m))]) (rest := []) (c := o) rfl rfl (Nat.le_of_ble_eq_true rfl) (ghh8.ob 0 rfl).1 (ghh8.ob 0 rfl).2.1 (h_X1_trim (o := o) (W := W) (t := n + m) o4 W9 (by omega) (ghh8.sub (fun q hq => by simp only [List.mem_cons, List.not_mem_nil, or_false] at hq; (first | (rcases hq with rfl | rfl | rfl | rfl) | (rcases hq with rfl | rfl | rfl) | (rcases hq with rfl | rfl) | (rcases hq with rfl)) <;> simp))) (hd_bV (fun hc9 pt => ?_))
        rw [← ehS] at pt
        have ghc9 : G1 [(o, W), (a, A), (b, B)] hc9 := ghh8.call (cs := [o]) (by rw [← ehS]; exact pt.1) pt.2.1 (fun q hq => by simp only [List.mem_cons, List.not_mem_nil, or_false] at hq; (first | (rcases hq with rfl | rfl | rfl | rfl) | (rcases hq with rfl | rfl | rfl) | (rcases hq with rfl | rfl) | (rcases hq with rfl)) <;> (first | (left; simp; done) | (right; simp only [List.mem_cons, List.not_mem_nil, or_false, not_or]; omega)))
        refine hd_vret pkX1_product_ rfl ?_
        subst eQ
        have ek : k = m := by omega
        subst ek
        have tv := pt.2.2.val pt.1 (by rw [d3]; exact dg) (W := W) (by omega) W9 (by omega)
        rw [d3, eq] at tv
        have nn : nv1 (ga h (a + 1)) n.toNat * nv1 (ga h (b + 1)) k.toNat = ((Va * Vb).natAbs : Int) := by rw [← la, ← lm, ba.2.2.1, bbv.2.2.1, Int.natAbs_mul]; rfl
        rw [nn] at tv
        refine ⟨rfl, o3.trans (pt.1.mono (by intro c hc; simp only [List.mem_cons, List.not_mem_nil, or_false] at hc ⊢; omega)), ghc9, ⟨⟨pt.2.2.1.1, by have := pt.2.2.1.2; omega⟩, tv.2.1, tv.1, ?_, tv.2.2.1⟩⟩
        rw [pt.2.2.2.2.2, s3]
        split
        · next q =>
          have := tv.2.2.2.mp q
          rw [show Va * Vb = 0 by omega]
          rfl
        · rfl
      · skip
        refine hd_aload pkX1_product_ rfl rfl (Int.natCast_nonneg _) ?_
        refine hd_aload pkX1_product_ rfl rfl (Int.natCast_nonneg _) ?_
        refine hd_aload pkX1_product_ rfl rfl (Int.natCast_nonneg _) ?_
        refine hd_getR (n := b + 1) pkX1_product_ rfl (g18.ob 2 rfl).1 (g18.ob 2 rfl).2.1 (g18.rf 2 rfl) ?_
        refine hd_iload pkX1_product_ rfl rfl ?_
        refine hd_iald (n := B) pkX1_product_ rfl (g18.ar 2 rfl) (by omega) (by omega) (fun v10 ev10 rv10 => ?_)
        obtain ⟨bb, qv10⟩ : ∃ x : Int, x = v10 := ⟨_, rfl⟩
        have bv : bb = ga h (b + 1) k := (qv10.trans ev10).trans (hO.ga (by simp only [List.mem_cons, List.not_mem_nil, or_false, not_or]; omega) _)
        have bb9 : 0 ≤ bb ∧ bb ≤ 1073741823 := by rw [bv]; exact db k (by omega) (by omega)
        subst qv10
        refine hd_i2l pkX1_product_ rfl ?_
        refine hd_iload pkX1_product_ rfl rfl ?_
        refine hd_callV pkX1_product_ rfl (q := (KX1_addRow, yX1_addRow, 1, 3, 0)) rfl rfl rfl (As := [(2, ((a : Nat) : Int)), (1, bb), (0, k)]) (rest := []) (c := o) rfl rfl (Nat.le_of_ble_eq_true rfl) (g18.ob 0 rfl).1 (g18.ob 0 rfl).2.1 (h_X1_addRow (o := o) (W := W) (a := a) (A := A) (l := bb) (p := k) (n := n) o4 W9 a4 A9 (by omega) bb9 (by omega) ((hO.ga (by simp only [List.mem_cons, List.not_mem_nil, or_false, not_or]; omega) _).trans la) (by omega) (by omega) dg (by rw [onlyF hO (by simp only [List.mem_cons, List.not_mem_nil, or_false, not_or]; omega)]; exact da) (zz (n + k) (by omega) (by omega)) (g18.sub (fun q hq => by simp only [List.mem_cons, List.not_mem_nil, or_false] at hq; (first | (rcases hq with rfl | rfl | rfl | rfl) | (rcases hq with rfl | rfl | rfl) | (rcases hq with rfl | rfl) | (rcases hq with rfl)) <;> simp))) (hd_bV (fun hc11 pr => ?_))
        have ghc11 : G1 [(o, W), (a, A), (b, B)] hc11 := g18.call pr.1 pr.2.1 (fun q hq => by simp only [List.mem_cons, List.not_mem_nil, or_false] at hq; (first | (rcases hq with rfl | rfl | rfl | rfl) | (rcases hq with rfl | rfl | rfl) | (rcases hq with rfl | rfl) | (rcases hq with rfl)) <;> (first | (left; simp; done) | (right; simp only [List.mem_cons, List.not_mem_nil, or_false, not_or]; omega)))
        have o2 : Only [o + 1] h hc11 := hO.trans pr.1
        refine hd_iinc (z := 1) pkX1_product_ rfl rfl (by omega) rfl ?_
        change MW _ _ _ _ _ [(4, (0, (k + 1))), (0, (2, ((o : Nat) : Int))), (1, (2, ((a : Nat) : Int))), (2, (2, ((b : Nat) : Int))), (3, (0, (n + m)))] _ _
        refine hd_goto pkX1_product_ rfl ?_
        refine m_sub [(0, (2, ((o : Nat) : Int))), (1, (2, ((a : Nat) : Int))), (2, (2, ((b : Nat) : Int))), (3, (0, (n + m))), (4, (0, (k + 1)))] (List.forall_mem_cons.mpr ⟨rfl, List.forall_mem_cons.mpr ⟨rfl, List.forall_mem_cons.mpr ⟨rfl, List.forall_mem_cons.mpr ⟨rfl, List.forall_mem_cons.mpr ⟨rfl, fun _ h => absurd h List.not_mem_nil⟩⟩⟩⟩⟩) ?_
        refine ih18  ((k + 1)) hc11 ghc11 ?_ ?_ ?_ ?_ ?_ ?_
        · exact o2
        · omega
        · exact pr.2.2.1
        · intro j a b
          rw [pr.2.2.2.2 j (by omega)]
          exact zz j (by omega) b
        · have z := pr.2.2.2.1
          rw [eq, onlyF hO (by simp only [List.mem_cons, List.not_mem_nil, or_false, not_or]; omega), bv] at z
          rw [show n + (k + 1) = n + k + 1 by omega, z, show (k + 1).toNat = k.toNat + 1 by omega]
          show _ = nv1 (ga h (a + 1)) n.toNat * (nv1 (ga h (b + 1)) k.toNat + ga h (b + 1) (k.toNat : Int) * 1073741824 ^ k.toNat)
          rw [show (k.toNat : Int) = k by omega, Int.mul_add, Int.mul_left_comm]
        · omega
  refine m_sub [(0, (2, ((o : Nat) : Int))), (1, (2, ((a : Nat) : Int))), (2, (2, ((b : Nat) : Int))), (3, (0, (n + m))), (4, (0, 0))] (List.forall_mem_cons.mpr ⟨rfl, List.forall_mem_cons.mpr ⟨rfl, List.forall_mem_cons.mpr ⟨rfl, List.forall_mem_cons.mpr ⟨rfl, List.forall_mem_cons.mpr ⟨rfl, fun _ h => absurd h List.not_mem_nil⟩⟩⟩⟩⟩) ?_
  refine lp18 ((m - (0)) + 1).toNat (0) hh3 ghh3 ?_ ?_ ?_ ?_ ?_ ?_
  · exact oF
  · omega
  · intro j a b
    rw [fF j a]
    split
    · omega
    · exact d0 j a b
  · intro j a b
    rw [fF j (by omega), if_pos (by omega)]
  · show _ = nv1 (ga h (a + 1)) n.toNat * 0
    rw [Int.mul_zero, nv1_zero (n := 0) (by omega) (fun j a b => by rw [fF j (by omega), if_pos (by omega)])]
    rfl
  · omega
