/-! X1 by hand: set, copy -/
set_option maxRecDepth 20000 in
set_option maxHeartbeats 8000000 in
theorem h_X1_set {h : MH} {o W : Nat} (o4 : 3 ≤ o) (W9 : W ≤ 1000) {v : Int} (W3 : 3 ≤ W) (d0 : Dg1 (ga h (o + 1)) 1099511627776) (g : G1 [(o, W)] h) : MCal KX1_set yX1_set 0 0 [(2, ((o : Nat) : Int)), (1, v)] h (mRV fun h' => Only [o, o + 1] h h' ∧ G1 [(o, W)] h' ∧ BV1 h' o W v) := by
  refine MCal.ofMW (Or.inl rfl) ⟨cp_X1, rfl⟩ (Nat.le_of_ble_eq_true rfl) ?_
  generalize eQ : (mRV fun h' => Only [o, o + 1] h h' ∧ G1 [(o, W)] h' ∧ BV1 h' o W v : MO → MH → Prop) = Q
  change MW KX1_set Q 0 0 (pcA pgX1_set 0) [(0, (2, ((o : Nat) : Int))), (1, (1, v))] [] h
  refine hd_locL (i := 1) rfl (fun rv => ?_)
  have nx_o : ∀ qq ∈ ([(o, W)] : List (Nat × Nat)), ¬ o + 1 = qq.1 := fun qq hq => by
    simp only [List.mem_cons, List.not_mem_nil, or_false] at hq
    rcases hq with rfl <;> (dsimp only; omega)
  refine hd_aload pkX1_set rfl rfl (Int.natCast_nonneg _) ?_
  have cut14 : ∀ (sg : Int), (sg = v.sign) → MW KX1_set Q 0 0 (pcA pgX1_set 14) [(0, (2, ((o : Nat) : Int))), (1, (1, v))] [(0, sg), (2, ((o : Nat) : Int))] h := by
    intro sg sgv
    refine hd_putI pkX1_set rfl (g.ob 0 rfl).1 (g.ob 0 rfl).2.1 (fun hh1 ehh1 => ?_)
    replace ehh1 : hh1 = sa h o 2 sg := ehh1
    have ghh1 : G1 [(o, W)] hh1 := by rw [ehh1]; exact g.set (by decide) (fun _ _ _ => by decide)
    have o1 : Only [o, o + 1] h hh1 := by rw [ehh1]; exact (Only.refl _ _).set (by simp)
    have s1 : ga hh1 o 2 = v.sign := by
      rw [ehh1, ga_sa _ _ _ (by decide) (by decide), if_pos rfl]
      exact sgv
    have f1 : ga hh1 (o + 1) = ga h (o + 1) := onlyF (show Only [o] h hh1 by rw [ehh1]; exact (Only.refl _ _).set List.mem_cons_self) (by simp only [List.mem_cons, List.not_mem_nil, or_false, not_or]; omega)
    refine hd_aload pkX1_set rfl rfl (Int.natCast_nonneg _) ?_
    refine hd_ipush (z := 0) pkX1_set rfl ?_
    refine hd_putI pkX1_set rfl (ghh1.ob 0 rfl).1 (ghh1.ob 0 rfl).2.1 (fun hh2 ehh2 => ?_)
    replace ehh2 : hh2 = sa hh1 o 1 0 := ehh2
    have ghh2 : G1 [(o, W)] hh2 := by rw [ehh2]; exact ghh1.set (by decide) (fun _ _ _ => by decide)
    have o2 : Only [o, o + 1] h hh2 := by rw [ehh2]; exact o1.set (by simp)
    have s2 : ga hh2 o 2 = v.sign := by rw [ehh2, ga_sa _ _ _ (by decide) (by decide), if_neg (by decide)]; exact s1
    have l2 : ga hh2 o 1 = 0 := by rw [ehh2, ga_sa _ _ _ (by decide) (by decide), if_pos rfl]
    have f2 : ga hh2 (o + 1) = ga h (o + 1) := by
      rw [ehh2]
      exact (onlyF (cs := [o]) ((Only.refl _ _).set List.mem_cons_self) (by simp only [List.mem_cons, List.not_mem_nil, or_false, not_or]; omega)).trans f1
    have cut26 : ∀ (r0 : Int), (r0 = -(v.natAbs : Int)) → MW KX1_set Q 0 0 (pcA pgX1_set 26) [(0, (2, ((o : Nat) : Int))), (1, (1, v))] [(1, r0)] hh2 := by
      intro r0 r0v
      refine hd_lstore pkX1_set rfl rfl ?_
      change MW _ _ _ _ _ [(3, (1, r0)), (0, (2, ((o : Nat) : Int))), (1, (1, v))] _ _
      have lp27 : ∀ (N27 : Nat) (rs k : Int) (hL : MH), G1 [(o, W)] hL → (Only [o, o + 1] h hL) → (ga hL o 1 = k) → (ga hL o 2 = v.sign) → (0 ≤ k ∧ k ≤ W) → (-9223372036854775808 ≤ rs ∧ rs ≤ 0) → (Dg1 (ga hL (o + 1)) 1099511627776) → (nv1 (ga hL (o + 1)) k.toNat + (-rs) * 1073741824 ^ k.toNat = (v.natAbs : Int)) → (1 ≤ k → rs = 0 → 1 ≤ ga hL (o + 1) (k - 1)) → -rs < (N27 : Int) → MW KX1_set Q 0 0 (pcA pgX1_set 27) [(0, (2, ((o : Nat) : Int))), (1, (1, v)), (3, (1, rs))] [] hL := by
        intro N27
        induction N27 with
        | zero => intro rs k hL g27 hO ek es k0 rb dg eq tp hm27; exfalso; omega
        | succ N27 ih27 =>
          intro rs k hL g27 hO ek es k0 rb dg eq tp hm27
          refine hd_lload pkX1_set rfl rfl ?_
          refine hd_lpush (z := 0) pkX1_set rfl ?_
          refine hd_lc_eq pkX1_set rfl (fun c3 => ?_) (fun c3 => ?_)
          · skip
            refine hd_vret pkX1_set rfl ?_
            subst eQ
            have re : rs = 0 := set_end (n := k.toNat) (V := (v.natAbs : Int)) (fun j a b => dg j a (by omega)) rb.2 eq (fun w => by omega) (by omega)
            refine ⟨rfl, hO, g27, ⟨by rw [ek]; exact k0, dg, ?_, es, fun a => ?_⟩⟩
            · rw [ek, ← eq, re]
              show _ = _ + -0 * _
              rw [Int.neg_zero, Int.zero_mul, Int.add_zero]
            · rw [ek] at a ⊢
              exact tp a re
          · skip
            refine hd_aload pkX1_set rfl rfl (Int.natCast_nonneg _) ?_
            refine hd_getI pkX1_set rfl (g27.ob 0 rfl).1 (g27.ob 0 rfl).2.1 (fun v4 ev4 rv4 => ?_)
            replace ev4 : v4 = ga hL o 1 := ev4
            have qv4 : k = v4 := by rw [ev4]; exact ek.symm
            subst qv4
            refine hd_aload pkX1_set rfl rfl (Int.natCast_nonneg _) ?_
            refine hd_getR (n := o + 1) pkX1_set rfl (g27.ob 0 rfl).1 (g27.ob 0 rfl).2.1 (g27.rf 0 rfl) ?_
            refine hd_alen (n := W) (k := 0) pkX1_set rfl (g27.ar 0 rfl) (by decide) (by omega) ?_
            refine hd_ic_ge pkX1_set rfl (fun c5 => ?_) (fun c5 => ?_)
            · skip
              refine hd_vret pkX1_set rfl ?_
              subst eQ
              have re : rs = 0 := set_end (n := k.toNat) (V := (v.natAbs : Int)) (fun j a b => dg j a (by omega)) rb.2 eq (fun w => by omega) (by omega)
              refine ⟨rfl, hO, g27, ⟨by rw [ek]; exact k0, dg, ?_, es, fun a => ?_⟩⟩
              · rw [ek, ← eq, re]
                show _ = _ + -0 * _
                rw [Int.neg_zero, Int.zero_mul, Int.add_zero]
              · rw [ek] at a ⊢
                exact tp a re
            · skip
              refine hd_aload pkX1_set rfl rfl (Int.natCast_nonneg _) ?_
              refine hd_getR (n := o + 1) pkX1_set rfl (g27.ob 0 rfl).1 (g27.ob 0 rfl).2.1 (g27.rf 0 rfl) ?_
              refine hd_aload pkX1_set rfl rfl (Int.natCast_nonneg _) ?_
              refine hd_dup pkX1_set rfl rfl ?_
              refine hd_getI pkX1_set rfl (g27.ob 0 rfl).1 (g27.ob 0 rfl).2.1 (fun v6 ev6 rv6 => ?_)
              replace ev6 : v6 = ga hL o 1 := ev6
              have qv6 : k = v6 := by rw [ev6]; exact ek.symm
              subst qv6
              refine hd_dup_x1 pkX1_set rfl rfl rfl ?_
              refine hd_ipush (z := 1) pkX1_set rfl ?_
              refine hd_iadd pkX1_set rfl (by omega) ?_
              refine hd_putI pkX1_set rfl (g27.ob 0 rfl).1 (g27.ob 0 rfl).2.1 (fun hh7 ehh7 => ?_)
              replace ehh7 : hh7 = sa hL o 1 (k + 1) := ehh7
              have ghh7 : G1 [(o, W)] hh7 := by rw [ehh7]; exact g27.set (by decide) (fun _ _ _ => by decide)
              have o3 : Only [o, o + 1] h hh7 := by rw [ehh7]; exact hO.set (by simp)
              have l3 : ga hh7 o 1 = k + 1 := by rw [ehh7, ga_sa _ _ _ (by decide) (by decide), if_pos rfl]
              have s3 : ga hh7 o 2 = v.sign := by rw [ehh7, ga_sa _ _ _ (by decide) (by decide), if_neg (by decide)]; exact es
              have f3 : ga hh7 (o + 1) = ga hL (o + 1) := by
                rw [ehh7]
                exact onlyF (cs := [o]) ((Only.refl _ _).set List.mem_cons_self) (by simp only [List.mem_cons, List.not_mem_nil, or_false, not_or]; omega)
              obtain ⟨hM, ehM⟩ : ∃ x : MH, x = hh7 := ⟨_, rfl⟩
              rw [← ehM] at o3 l3 s3 f3
              refine hd_lload pkX1_set rfl rfl ?_
              refine hd_lpush (z := 1073741824) pkX1_set rfl ?_
              refine hd_lrem pkX1_set rfl (by decide) (by rw [(set_dm rb.2).2]; omega) ?_
              generalize em9 : (Int.tmod rs 1073741824) = m9
              rw [(set_dm rb.2).2] at em9
              refine hd_lneg pkX1_set rfl (by omega) ?_
              refine hd_l2i pkX1_set rfl (by omega) ?_
              refine hd_iast (n := W) pkX1_set rfl (ghh7.ar 0 rfl) (by omega) (by omega) (by omega) (fun hh8 ehh8 => ?_)
              have ghh8 : G1 [(o, W)] hh8 := by rw [ehh8]; exact ghh7.set (by omega) (fun qq hq w => absurd w (nx_o qq hq))
              rw [← ehM] at ehh8
              have o4 : Only [o, o + 1] h hh8 := by rw [ehh8]; exact o3.set (by simp)
              have l4 : ga hh8 o 1 = k + 1 := by rw [ehh8, ga_ne _ _ _ _ (by omega)]; exact l3
              have s4 : ga hh8 o 2 = v.sign := by rw [ehh8, ga_ne _ _ _ _ (by omega)]; exact s3
              have f4 : ∀ j : Int, 0 ≤ j → ga hh8 (o + 1) j = if j = k then -m9 else ga hL (o + 1) j := fun j a => by
                rw [ehh8, ga_sa _ _ _ (by omega) a, f3]
              refine hd_lload pkX1_set rfl rfl ?_
              refine hd_lpush (z := 1073741824) pkX1_set rfl ?_
              refine hd_ldiv pkX1_set rfl (by decide) (by rw [(set_dm rb.2).1]; omega) ?_
              generalize eq9 : (Int.tdiv rs 1073741824) = q9
              rw [(set_dm rb.2).1] at eq9
              refine hd_lstore pkX1_set rfl rfl ?_
              change MW _ _ _ _ _ [(3, (1, q9)), (0, (2, ((o : Nat) : Int))), (1, (1, v))] _ _
              refine hd_goto pkX1_set rfl ?_
              refine m_sub [(0, (2, ((o : Nat) : Int))), (1, (1, v)), (3, (1, q9))] (List.forall_mem_cons.mpr ⟨rfl, List.forall_mem_cons.mpr ⟨rfl, List.forall_mem_cons.mpr ⟨rfl, fun _ h => absurd h List.not_mem_nil⟩⟩⟩) ?_
              refine ih27  (q9) (k + 1) hh8 ghh8 ?_ ?_ ?_ ?_ ?_ ?_ ?_ ?_ ?_
              · exact o4
              · exact l4
              · exact s4
              · omega
              · omega
              · intro j a b
                rw [f4 j a]
                split
                · omega
                · exact dg j a b
              · have z := row2 (P := nv1 (ga hL (o + 1)) k.toNat) (k := k.toNat) (r := -rs) (b := -m9) (t := -q9) (by omega)
                rw [show (k + 1).toNat = k.toNat + 1 by omega]
                show nv1 _ k.toNat + _ * _ + _ = _
                rw [f4 ((k.toNat : Nat) : Int) (by omega), if_pos (by omega), nv1_cg (g := ga hL (o + 1)) (fun j a b => by rw [f4 j a, if_neg (by omega)])]
                exact z.trans eq
              · intro _ _
                rw [f4 (k + 1 - 1) (by omega), if_pos (by omega)]
                omega
              · omega
      refine m_sub [(0, (2, ((o : Nat) : Int))), (1, (1, v)), (3, (1, r0))] (List.forall_mem_cons.mpr ⟨rfl, List.forall_mem_cons.mpr ⟨rfl, List.forall_mem_cons.mpr ⟨rfl, fun _ h => absurd h List.not_mem_nil⟩⟩⟩) ?_
      refine lp27 ((-(r0)) + 1).toNat (r0) (0) hh2 ghh2 ?_ ?_ ?_ ?_ ?_ ?_ ?_ ?_ ?_
      · exact o2
      · exact l2
      · exact s2
      · omega
      · omega
      · rw [f2]
        exact d0
      · show 0 + _ * 1 = _
        omega
      · intro a
        omega
      · omega
    refine hd_lload pkX1_set rfl rfl ?_
    refine hd_lpush (z := 0) pkX1_set rfl ?_
    refine hd_lc_le pkX1_set rfl (fun c9 => ?_) (fun c9 => ?_)
    · skip
      refine hd_lload pkX1_set rfl rfl ?_
      refine cut26 (v) ?_
      · omega
    · skip
      refine hd_lload pkX1_set rfl rfl ?_
      refine hd_lneg pkX1_set rfl (by omega) ?_
      refine hd_goto pkX1_set rfl ?_
      refine cut26 ((-v)) ?_
      · omega
  refine hd_lload pkX1_set rfl rfl ?_
  refine hd_lpush (z := 0) pkX1_set rfl ?_
  refine hd_lc_le pkX1_set rfl (fun c10 => ?_) (fun c10 => ?_)
  · skip
    refine hd_lload pkX1_set rfl rfl ?_
    refine hd_lpush (z := 0) pkX1_set rfl ?_
    refine hd_lc_ge pkX1_set rfl (fun c11 => ?_) (fun c11 => ?_)
    · skip
      refine hd_ipush (z := 0) pkX1_set rfl ?_
      refine cut14 (0) ?_
      · rcases sg_case v with ⟨a, b⟩ | ⟨a, b⟩ | ⟨a, b⟩ <;> omega
    · skip
      refine hd_ipush (z := (-1)) pkX1_set rfl ?_
      refine hd_goto pkX1_set rfl ?_
      refine cut14 ((-1)) ?_
      · rcases sg_case v with ⟨a, b⟩ | ⟨a, b⟩ | ⟨a, b⟩ <;> omega
  · skip
    refine hd_ipush (z := 1) pkX1_set rfl ?_
    refine hd_goto pkX1_set rfl ?_
    refine cut14 (1) ?_
    · rcases sg_case v with ⟨a, b⟩ | ⟨a, b⟩ | ⟨a, b⟩ <;> omega
set_option maxRecDepth 20000 in
set_option maxHeartbeats 8000000 in
theorem h_X1_copy {h : MH} {o W a A : Nat} (o4 : 3 ≤ o) (W9 : W ≤ 1000) (a4 : 3 ≤ a) (A9 : A ≤ 1000) {V : Int} (oa : o + 1 < a ∨ a + 1 < o) (ba : BV1 h a A V) (lw : ga h a 1 ≤ (W : Int)) (d0 : Dg1 (ga h (o + 1)) 1099511627776) (g : G1 [(o, W), (a, A)] h) : MCal KX1_copy yX1_copy 0 0 [(2, ((o : Nat) : Int)), (2, ((a : Nat) : Int))] h (mRV fun h' => Only [o, o + 1] h h' ∧ G1 [(o, W), (a, A)] h' ∧ BV1 h' o W V) := by
  refine MCal.ofMW (Or.inl rfl) ⟨cp_X1, rfl⟩ (Nat.le_of_ble_eq_true rfl) ?_
  generalize eQ : (mRV fun h' => Only [o, o + 1] h h' ∧ G1 [(o, W), (a, A)] h' ∧ BV1 h' o W V : MO → MH → Prop) = Q
  change MW KX1_copy Q 0 0 (pcA pgX1_copy 0) [(0, (2, ((o : Nat) : Int))), (1, (2, ((a : Nat) : Int)))] [] h
  have nx_o : ∀ qq ∈ ([(o, W), (a, A)] : List (Nat × Nat)), ¬ o + 1 = qq.1 := fun qq hq => by
    simp only [List.mem_cons, List.not_mem_nil, or_false] at hq
    rcases hq with rfl | rfl <;> (dsimp only; omega)
  obtain ⟨n, ln⟩ : ∃ n : Int, ga h a 1 = n := ⟨_, rfl⟩
  have nA := ba.1
  rw [ln] at nA lw
  refine hd_aload pkX1_copy rfl rfl (Int.natCast_nonneg _) ?_
  refine hd_aload pkX1_copy rfl rfl (Int.natCast_nonneg _) ?_
  refine hd_getI pkX1_copy rfl (g.ob 1 rfl).1 (g.ob 1 rfl).2.1 (fun v1 ev1 rv1 => ?_)
  replace ev1 : v1 = ga h a 1 := ev1
  have qv1 : n = v1 := by rw [ev1]; exact ln.symm
  subst qv1
  refine hd_aload pkX1_copy rfl rfl (Int.natCast_nonneg _) ?_
  refine hd_getR (n := o + 1) pkX1_copy rfl (g.ob 0 rfl).1 (g.ob 0 rfl).2.1 (g.rf 0 rfl) ?_
  refine hd_alen (n := W) (k := 0) pkX1_copy rfl (g.ar 0 rfl) (by decide) (by omega) ?_
  refine hd_imin pkX1_copy rfl (Nat.le_of_ble_eq_true rfl) (fun m9 am9 bm9 cm9 => ?_)
  have m9n : n = m9 := by omega
  refine hd_putI pkX1_copy rfl (g.ob 0 rfl).1 (g.ob 0 rfl).2.1 (fun hh2 ehh2 => ?_)
  replace ehh2 : hh2 = sa h o 1 m9 := ehh2
  have ghh2 : G1 [(o, W), (a, A)] hh2 := by rw [ehh2]; exact g.set (by decide) (fun _ _ _ => by decide)
  have o1 : Only [o, o + 1] h hh2 := by rw [ehh2]; exact (Only.refl _ _).set (by simp)
  have l1 : ga hh2 o 1 = n := by rw [ehh2, ga_sa _ _ _ (by decide) (by decide), if_pos rfl]; exact m9n.symm
  have u1 : Only [o] h hh2 := by rw [ehh2]; exact (Only.refl _ _).set List.mem_cons_self
  have f1 : ga hh2 (o + 1) = ga h (o + 1) := onlyF u1 (by simp only [List.mem_cons, List.not_mem_nil, or_false, not_or]; omega)
  have a1 : ga hh2 (a + 1) = ga h (a + 1) := onlyF u1 (by simp only [List.mem_cons, List.not_mem_nil, or_false, not_or]; omega)
  obtain ⟨hM, ehM⟩ : ∃ x : MH, x = hh2 := ⟨_, rfl⟩
  rw [← ehM] at o1 l1 u1 f1 a1
  refine hd_aload pkX1_copy rfl rfl (Int.natCast_nonneg _) ?_
  refine hd_getR (n := a + 1) pkX1_copy rfl (ghh2.ob 1 rfl).1 (ghh2.ob 1 rfl).2.1 (ghh2.rf 1 rfl) ?_
  refine hd_ipush (z := 0) pkX1_copy rfl ?_
  refine hd_aload pkX1_copy rfl rfl (Int.natCast_nonneg _) ?_
  refine hd_getR (n := o + 1) pkX1_copy rfl (ghh2.ob 0 rfl).1 (ghh2.ob 0 rfl).2.1 (ghh2.rf 0 rfl) ?_
  refine hd_ipush (z := 0) pkX1_copy rfl ?_
  refine hd_aload pkX1_copy rfl rfl (Int.natCast_nonneg _) ?_
  refine hd_getI pkX1_copy rfl (ghh2.ob 0 rfl).1 (ghh2.ob 0 rfl).2.1 (fun v3 ev3 rv3 => ?_)
  replace ev3 : v3 = ga hh2 o 1 := ev3
  have qv3 : n = v3 := by rw [ev3, ← ehM]; exact l1.symm
  subst qv3
  refine hd_copyI (m := 51) (i := 16) (by decide) rfl (n := A) (e := W) (ghh2.ar 1 rfl) (by omega) (ghh2.ar 0 rfl) (by omega) (by omega) (by omega) (by omega) (by omega) (by omega) (Nat.le_of_ble_eq_true rfl) (fun hh4 ehh4 => ?_)
  have ghh4 : G1 [(o, W), (a, A)] hh4 := by rw [ehh4]; exact ghh2.copy nx_o
  rw [← ehM] at ehh4
  have o2 : Only [o, o + 1] h hh4 := by rw [ehh4]; exact o1.trans ((only_copy).mono (mem1 (by simp)))
  have l2 : ga hh4 o 1 = n := by rw [ehh4, only_copy.ga (by simp only [List.mem_cons, List.not_mem_nil, or_false, not_or]; omega)]; exact l1
  have b2 : ga hh4 a 2 = ga h a 2 := by rw [ehh4, only_copy.ga (by simp only [List.mem_cons, List.not_mem_nil, or_false, not_or]; omega)]; exact u1.ga (by simp only [List.mem_cons, List.not_mem_nil, or_false, not_or]; omega) _
  have f2 : ∀ j : Int, 0 ≤ j → ga hh4 (o + 1) j = if j < n then ga h (a + 1) j else ga h (o + 1) j := fun j z => by
    rw [ehh4, ga_copy (by omega) z, a1, f1]
  obtain ⟨hN, ehN⟩ : ∃ x : MH, x = hh4 := ⟨_, rfl⟩
  rw [← ehN] at o2 l2 b2 f2
  refine hd_aload pkX1_copy rfl rfl (Int.natCast_nonneg _) ?_
  refine hd_aload pkX1_copy rfl rfl (Int.natCast_nonneg _) ?_
  refine hd_getI pkX1_copy rfl (ghh4.ob 1 rfl).1 (ghh4.ob 1 rfl).2.1 (fun v5 ev5 rv5 => ?_)
  replace ev5 : v5 = ga hh4 a 2 := ev5
  have qv5 : v5 = V.sign := by rw [ev5, ← ehN, b2]; exact ba.2.2.2.1
  refine hd_putI pkX1_copy rfl (ghh4.ob 0 rfl).1 (ghh4.ob 0 rfl).2.1 (fun hh6 ehh6 => ?_)
  replace ehh6 : hh6 = sa hh4 o 2 v5 := ehh6
  have ghh6 : G1 [(o, W), (a, A)] hh6 := by rw [ehh6]; exact ghh4.set (by decide) (fun _ _ _ => by decide)
  rw [← ehN] at ehh6
  have u3 : Only [o] hN hh6 := by rw [ehh6]; exact (Only.refl _ _).set List.mem_cons_self
  have o3 : Only [o, o + 1] h hh6 := o2.trans (u3.mono (mem1 (by simp)))
  have l3 : ga hh6 o 1 = n := by rw [ehh6, ga_sa _ _ _ (by decide) (by decide), if_neg (by decide)]; exact l2
  have s3 : ga hh6 o 2 = V.sign := by rw [ehh6, ga_sa _ _ _ (by decide) (by decide), if_pos rfl]; assumption
  have f3 : ga hh6 (o + 1) = ga hN (o + 1) := onlyF u3 (by simp only [List.mem_cons, List.not_mem_nil, or_false, not_or]; omega)
  refine hd_vret pkX1_copy rfl ?_
  subst eQ
  refine ⟨rfl, o3, ghh6, ⟨by rw [l3]; omega, fun j z w => ?_, ?_, s3, fun z => ?_⟩⟩
  · rw [f3, f2 j z]
    split
    · exact ba.2.1 j z w
    · exact d0 j z w
  · rw [l3, f3, nv1_cg (g := ga h (a + 1)) (fun j z w => by rw [f2 j z, if_pos (by omega)]), ← ba.2.2.1, ln]
  · rw [l3] at z ⊢
    have := ba.2.2.2.2 (by omega)
    rw [ln] at this
    rw [f3, f2 (n - 1) (by omega), if_pos (by omega)]
    exact this
