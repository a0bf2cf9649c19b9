/-! X1 by hand: sums -/
set_option maxRecDepth 20000 in
set_option maxHeartbeats 8000000 in
theorem h_X1_compareSize {h : MH} {o W a A : Nat} (o4 : 3 ≤ o) (W9 : W ≤ 1000) (a4 : 3 ≤ a) (A9 : A ≤ 1000) {Vo Va : Int} (oa : o + 1 < a ∨ a + 1 < o) (bo : BV1 h o W Vo) (ba : BV1 h a A Va) (g : G1 [(o, W), (a, A)] h) : MCal KX1_compareSize yX1_compareSize 0 0 [(2, ((o : Nat) : Int)), (2, ((a : Nat) : Int))] h (mRI fun v h' => ((v = -1 ∧ (Vo.natAbs : Int) < Va.natAbs) ∨ (v = 0 ∧ (Vo.natAbs : Int) = Va.natAbs) ∨ (v = 1 ∧ (Va.natAbs : Int) < Vo.natAbs)) ∧ h' = h) := by
  refine MCal.ofMW (Or.inl rfl) ⟨cp_X1, rfl⟩ (Nat.le_of_ble_eq_true rfl) ?_
  generalize eQ : (mRI fun v h' => ((v = -1 ∧ (Vo.natAbs : Int) < Va.natAbs) ∨ (v = 0 ∧ (Vo.natAbs : Int) = Va.natAbs) ∨ (v = 1 ∧ (Va.natAbs : Int) < Vo.natAbs)) ∧ h' = h : MO → MH → Prop) = Q
  change MW KX1_compareSize Q 0 0 (pcA pgX1_compareSize 0) [(0, (2, ((o : Nat) : Int))), (1, (2, ((a : Nat) : Int)))] [] h
  have nx_o : ∀ qq ∈ ([(o, W), (a, A)] : List (Nat × Nat)), ¬ o + 1 = qq.1 := fun qq hq => by
    simp only [List.mem_cons, List.not_mem_nil, or_false] at hq
    rcases hq with rfl | rfl <;> (dsimp only; omega)
  obtain ⟨n, lo⟩ : ∃ n : Int, ga h o 1 = n := ⟨_, rfl⟩
  obtain ⟨m, la⟩ : ∃ n : Int, ga h a 1 = n := ⟨_, rfl⟩
  have nW := bo.1
  have mA := ba.1
  have vo := bo.2.2.1
  have va := ba.2.2.1
  have to := bo.2.2.2.2
  have ta := ba.2.2.2.2
  rw [lo] at nW vo to
  rw [la] at mA va ta
  refine hd_aload pkX1_compareSize rfl rfl (Int.natCast_nonneg _) ?_
  refine hd_getI pkX1_compareSize rfl (g.ob 0 rfl).1 (g.ob 0 rfl).2.1 (fun v1 ev1 rv1 => ?_)
  replace ev1 : v1 = ga h o 1 := ev1
  have qv1 : n = v1 := by rw [ev1]; exact lo.symm
  subst qv1
  refine hd_aload pkX1_compareSize rfl rfl (Int.natCast_nonneg _) ?_
  refine hd_getI pkX1_compareSize rfl (g.ob 1 rfl).1 (g.ob 1 rfl).2.1 (fun v2 ev2 rv2 => ?_)
  replace ev2 : v2 = ga h a 1 := ev2
  have qv2 : m = v2 := by rw [ev2]; exact la.symm
  subst qv2
  refine hd_ic_eq pkX1_compareSize rfl (fun c3 => ?_) (fun c3 => ?_)
  · skip
    refine hd_aload pkX1_compareSize rfl rfl (Int.natCast_nonneg _) ?_
    refine hd_getI pkX1_compareSize rfl (g.ob 0 rfl).1 (g.ob 0 rfl).2.1 (fun v4 ev4 rv4 => ?_)
    replace ev4 : v4 = ga h o 1 := ev4
    have qv4 : n = v4 := by rw [ev4]; exact lo.symm
    subst qv4
    refine hd_ipush (z := 1) pkX1_compareSize rfl ?_
    refine hd_isub pkX1_compareSize rfl (by omega) ?_
    refine hd_istore pkX1_compareSize rfl rfl ?_
    change MW _ _ _ _ _ [(2, (0, (n - 1))), (0, (2, ((o : Nat) : Int))), (1, (2, ((a : Nat) : Int)))] _ _
    have lp19 : ∀ (N19 : Nat) (i : Int), (-1 ≤ i ∧ i < n) → (∀ j : Int, i < j → j < n → ga h (o + 1) j = ga h (a + 1) j) → (i : Int) + 1 < (N19 : Int) → MW KX1_compareSize Q 0 0 (pcA pgX1_compareSize 19) [(0, (2, ((o : Nat) : Int))), (1, (2, ((a : Nat) : Int))), (2, (0, i))] [] h := by
      intro N19
      induction N19 with
      | zero => intro i i0 up hm19; exfalso; omega
      | succ N19 ih19 =>
        intro i i0 up hm19
        refine hd_iload pkX1_compareSize rfl rfl ?_
        refine hd_if_lt pkX1_compareSize rfl (fun c5 => ?_) (fun c5 => ?_)
        · skip
          refine hd_ipush (z := 0) pkX1_compareSize rfl ?_
          refine hd_iret pkX1_compareSize rfl ?_
          subst eQ
          refine ⟨rfl, rfl, ?_, rfl⟩
          have mn : m = n := by omega
          subst mn
          have z := nv1_cg (f := ga h (o + 1)) (g := ga h (a + 1)) (n := m.toNat) (fun j a b => up j (by omega) (by omega))
          exact Or.inr (Or.inl ⟨rfl, by omega⟩)
        · skip
          refine hd_aload pkX1_compareSize rfl rfl (Int.natCast_nonneg _) ?_
          refine hd_getR (n := o + 1) pkX1_compareSize rfl (g.ob 0 rfl).1 (g.ob 0 rfl).2.1 (g.rf 0 rfl) ?_
          refine hd_iload pkX1_compareSize rfl rfl ?_
          refine hd_iald (n := W) pkX1_compareSize rfl (g.ar 0 rfl) (by omega) (by omega) (fun v6 ev6 rv6 => ?_)
          have qv6 : ga h (o + 1) i = v6 := ev6.symm
          subst qv6
          refine hd_aload pkX1_compareSize rfl rfl (Int.natCast_nonneg _) ?_
          refine hd_getR (n := a + 1) pkX1_compareSize rfl (g.ob 1 rfl).1 (g.ob 1 rfl).2.1 (g.rf 1 rfl) ?_
          refine hd_iload pkX1_compareSize rfl rfl ?_
          refine hd_iald (n := A) pkX1_compareSize rfl (g.ar 1 rfl) (by omega) (by omega) (fun v7 ev7 rv7 => ?_)
          have qv7 : ga h (a + 1) i = v7 := ev7.symm
          subst qv7
          refine hd_ic_eq pkX1_compareSize rfl (fun c8 => ?_) (fun c8 => ?_)
          · skip
            refine hd_iinc (z := (-1)) pkX1_compareSize rfl rfl (by omega) rfl ?_
            change MW _ _ _ _ _ [(2, (0, (i + (-1)))), (0, (2, ((o : Nat) : Int))), (1, (2, ((a : Nat) : Int)))] _ _
            refine hd_goto pkX1_compareSize rfl ?_
            refine m_sub [(0, (2, ((o : Nat) : Int))), (1, (2, ((a : Nat) : Int))), (2, (0, (i + (-1))))] (List.forall_mem_cons.mpr ⟨rfl, List.forall_mem_cons.mpr ⟨rfl, List.forall_mem_cons.mpr ⟨rfl, fun _ h => absurd h List.not_mem_nil⟩⟩⟩) ?_
            refine ih19  ((i + (-1))) ?_ ?_ ?_
            · omega
            · intro j a b
              by_cases q : j = i
              · rw [q]
                omega
              · exact up j (by omega) b
            · omega
          · skip
            refine hd_aload pkX1_compareSize rfl rfl (Int.natCast_nonneg _) ?_
            refine hd_getR (n := o + 1) pkX1_compareSize rfl (g.ob 0 rfl).1 (g.ob 0 rfl).2.1 (g.rf 0 rfl) ?_
            refine hd_iload pkX1_compareSize rfl rfl ?_
            refine hd_iald (n := W) pkX1_compareSize rfl (g.ar 0 rfl) (by omega) (by omega) (fun v9 ev9 rv9 => ?_)
            have qv9 : ga h (o + 1) i = v9 := ev9.symm
            subst qv9
            refine hd_aload pkX1_compareSize rfl rfl (Int.natCast_nonneg _) ?_
            refine hd_getR (n := a + 1) pkX1_compareSize rfl (g.ob 1 rfl).1 (g.ob 1 rfl).2.1 (g.rf 1 rfl) ?_
            refine hd_iload pkX1_compareSize rfl rfl ?_
            refine hd_iald (n := A) pkX1_compareSize rfl (g.ar 1 rfl) (by omega) (by omega) (fun v10 ev10 rv10 => ?_)
            have qv10 : ga h (a + 1) i = v10 := ev10.symm
            subst qv10
            refine hd_ic_ge pkX1_compareSize rfl (fun c11 => ?_) (fun c11 => ?_)
            · skip
              refine hd_ipush (z := 1) pkX1_compareSize rfl ?_
              refine hd_iret pkX1_compareSize rfl ?_
              subst eQ
              refine ⟨rfl, rfl, ?_, rfl⟩
              have mn : m = n := by omega
              subst mn
              have z := nv1_cmp (f := ga h (a + 1)) (g := ga h (o + 1)) (n := m.toNat) (k := i.toNat) (by omega) (fun j a b => (up j (by omega) (by omega)).symm) (fun j a b => ba.2.1 j a (by omega)) (fun j a b => bo.2.1 j a (by omega)) (by rw [show (i.toNat : Int) = i by omega]; omega)
              exact Or.inr (Or.inr ⟨rfl, by omega⟩)
            · skip
              refine hd_ipush (z := (-1)) pkX1_compareSize rfl ?_
              refine hd_goto pkX1_compareSize rfl ?_
              refine hd_iret pkX1_compareSize rfl ?_
              subst eQ
              refine ⟨rfl, rfl, ?_, rfl⟩
              have mn : m = n := by omega
              subst mn
              have z := nv1_cmp (f := ga h (o + 1)) (g := ga h (a + 1)) (n := m.toNat) (k := i.toNat) (by omega) (fun j a b => up j (by omega) (by omega)) (fun j a b => bo.2.1 j a (by omega)) (fun j a b => ba.2.1 j a (by omega)) (by rw [show (i.toNat : Int) = i by omega]; omega)
              exact Or.inl ⟨rfl, by omega⟩
    refine m_sub [(0, (2, ((o : Nat) : Int))), (1, (2, ((a : Nat) : Int))), (2, (0, (n - 1)))] (List.forall_mem_cons.mpr ⟨rfl, List.forall_mem_cons.mpr ⟨rfl, List.forall_mem_cons.mpr ⟨rfl, fun _ h => absurd h List.not_mem_nil⟩⟩⟩) ?_
    refine lp19 (((((n - 1)) : Int) + 1) + 1).toNat ((n - 1)) ?_ ?_ ?_
    · omega
    · intro j a b
      omega
    · omega
  · skip
    refine hd_aload pkX1_compareSize rfl rfl (Int.natCast_nonneg _) ?_
    refine hd_getI pkX1_compareSize rfl (g.ob 0 rfl).1 (g.ob 0 rfl).2.1 (fun v12 ev12 rv12 => ?_)
    replace ev12 : v12 = ga h o 1 := ev12
    have qv12 : n = v12 := by rw [ev12]; exact lo.symm
    subst qv12
    refine hd_aload pkX1_compareSize rfl rfl (Int.natCast_nonneg _) ?_
    refine hd_getI pkX1_compareSize rfl (g.ob 1 rfl).1 (g.ob 1 rfl).2.1 (fun v13 ev13 rv13 => ?_)
    replace ev13 : v13 = ga h a 1 := ev13
    have qv13 : m = v13 := by rw [ev13]; exact la.symm
    subst qv13
    refine hd_ic_ge pkX1_compareSize rfl (fun c14 => ?_) (fun c14 => ?_)
    · skip
      refine hd_ipush (z := 1) pkX1_compareSize rfl ?_
      refine hd_iret pkX1_compareSize rfl ?_
      subst eQ
      refine ⟨rfl, rfl, ?_, rfl⟩
      have z := nv1_len (f := ga h (a + 1)) (g := ga h (o + 1)) (n := m.toNat) (m := n.toNat) (by omega) (fun j a b => ba.2.1 j a (by omega)) (fun j a b => bo.2.1 j a (by omega)) (by rw [show ((n.toNat : Nat) : Int) - 1 = n - 1 by omega]; exact to (by omega))
      exact Or.inr (Or.inr ⟨rfl, by omega⟩)
    · skip
      refine hd_ipush (z := (-1)) pkX1_compareSize rfl ?_
      refine hd_goto pkX1_compareSize rfl ?_
      refine hd_iret pkX1_compareSize rfl ?_
      subst eQ
      refine ⟨rfl, rfl, ?_, rfl⟩
      have z := nv1_len (f := ga h (o + 1)) (g := ga h (a + 1)) (n := n.toNat) (m := m.toNat) (by omega) (fun j a b => bo.2.1 j a (by omega)) (fun j a b => ba.2.1 j a (by omega)) (by rw [show ((m.toNat : Nat) : Int) - 1 = m - 1 by omega]; exact ta (by omega))
      exact Or.inl ⟨rfl, by omega⟩
set_option maxRecDepth 20000 in
set_option maxHeartbeats 8000000 in
theorem h_X1_addT {h : MH} {o W a A bg Wb sm Ws : Nat} {Q : MO → MH → Prop} {x y t ot le lb ls : Int} (o4 : 3 ≤ o) (W9 : W ≤ 1000) (a4 : 3 ≤ a) (A9 : A ≤ 1000) (oa : o + 1 < a ∨ a + 1 < o) (eot : ot = y.sign) (bo : BV1 h o W x) (mbg : (bg, Wb) ∈ ([(o, W), (a, A)] : List (Nat × Nat))) (msm : (sm, Ws) ∈ ([(o, W), (a, A)] : List (Nat × Nat))) (bgo : bg = o ∨ bg = a) (smo : sm = o ∨ sm = a) (elb : ga h bg 1 = lb) (els : ga h sm 1 = ls) (db : Dg1 (ga h (bg + 1)) 1099511627776) (ds : Dg1 (ga h (sm + 1)) 1099511627776) (lbb : 0 ≤ lb ∧ lb + 1 ≤ (W : Int) ∧ lb ≤ (Wb : Int)) (lsb : 0 ≤ ls ∧ ls ≤ lb ∧ ls ≤ (Ws : Int))
    (lec : (le = 0 ∧ bg = o ∧ sm = a ∧ (y.natAbs : Int) ≤ x.natAbs ∧ nv1 (ga h (bg + 1)) lb.toNat = (x.natAbs : Int) ∧ nv1 (ga h (sm + 1)) ls.toNat = (y.natAbs : Int)) ∨ (le = 1 ∧ bg = a ∧ sm = o ∧ (x.natAbs : Int) < y.natAbs ∧ nv1 (ga h (bg + 1)) lb.toNat = (y.natAbs : Int) ∧ nv1 (ga h (sm + 1)) ls.toNat = (x.natAbs : Int)))
    (fin : ∀ h', G1 [(o, W), (a, A)] h' → Only [o, o + 1] h h' → BV1 h' o W (x + y) → Q (0, (0, 0)) h') (g : G1 [(o, W), (a, A)] h) : MW KX1_add Q 0 0 (pcA pgX1_add 25) [(0, (2, ((o : Nat) : Int))), (1, (2, ((a : Nat) : Int))), (2, (0, t)), (3, (0, ot)), (4, (0, le)), (5, (2, ((bg : Nat) : Int))), (6, (2, ((sm : Nat) : Int)))] [] h := by
  have nx_o : ∀ q ∈ ([(o, W), (a, A)] : List (Nat × Nat)), ¬ o + 1 = q.1 := fun q hq => by
    simp only [List.mem_cons, List.not_mem_nil, or_false] at hq
    rcases hq with rfl | rfl <;> (dsimp only; omega)
  have cut33 : ∀ (wy : Int), ((wy = -1 ∧ x.sign * y.sign < 0) ∨ (wy = 1 ∧ 0 ≤ x.sign * y.sign)) → MW KX1_add Q 0 0 (pcA pgX1_add 33) [(0, (2, ((o : Nat) : Int))), (1, (2, ((a : Nat) : Int))), (2, (0, t)), (3, (0, ot)), (4, (0, le)), (5, (2, ((bg : Nat) : Int))), (6, (2, ((sm : Nat) : Int)))] [(0, wy)] h := by
    intro wy wyb
    refine hd_istore pkX1_add rfl rfl ?_
    change MW _ _ _ _ _ [(7, (0, wy)), (0, (2, ((o : Nat) : Int))), (1, (2, ((a : Nat) : Int))), (2, (0, t)), (3, (0, ot)), (4, (0, le)), (5, (2, ((bg : Nat) : Int))), (6, (2, ((sm : Nat) : Int)))] _ _
    refine hd_aload pkX1_add rfl rfl (Int.natCast_nonneg _) ?_
    refine hd_getI pkX1_add rfl (g _ mbg).1.1 (g _ mbg).1.2.1 (fun v1 ev1 rv1 => ?_)
    replace ev1 : v1 = ga h bg 1 := ev1
    have qv1 : lb = v1 := by rw [ev1]; exact elb.symm
    subst qv1
    refine hd_ipush (z := 1) pkX1_add rfl ?_
    refine hd_iadd pkX1_add rfl (by omega) ?_
    refine hd_aload pkX1_add rfl rfl (Int.natCast_nonneg _) ?_
    refine hd_getR (n := o + 1) pkX1_add rfl (g.ob 0 rfl).1 (g.ob 0 rfl).2.1 (g.rf 0 rfl) ?_
    refine hd_alen (n := W) (k := 0) pkX1_add rfl (g.ar 0 rfl) (by decide) (by omega) ?_
    refine hd_imin pkX1_add rfl (Nat.le_of_ble_eq_true rfl) (fun tp atp btp ctp => ?_)
    have tp9 : tp = lb + 1 := by omega
    subst tp9
    refine hd_istore pkX1_add rfl rfl ?_
    change MW _ _ _ _ _ [(8, (0, (lb + 1))), (7, (0, wy)), (0, (2, ((o : Nat) : Int))), (1, (2, ((a : Nat) : Int))), (2, (0, t)), (3, (0, ot)), (4, (0, le)), (5, (2, ((bg : Nat) : Int))), (6, (2, ((sm : Nat) : Int)))] _ _
    refine hd_lpush (z := 0) pkX1_add rfl ?_
    refine hd_lstore pkX1_add rfl rfl ?_
    change MW _ _ _ _ _ [(9, (1, 0)), (8, (0, (lb + 1))), (7, (0, wy)), (0, (2, ((o : Nat) : Int))), (1, (2, ((a : Nat) : Int))), (2, (0, t)), (3, (0, ot)), (4, (0, le)), (5, (2, ((bg : Nat) : Int))), (6, (2, ((sm : Nat) : Int)))] _ _
    refine hd_ipush (z := 0) pkX1_add rfl ?_
    refine hd_istore pkX1_add rfl rfl ?_
    change MW _ _ _ _ _ [(11, (0, 0)), (9, (1, 0)), (8, (0, (lb + 1))), (7, (0, wy)), (0, (2, ((o : Nat) : Int))), (1, (2, ((a : Nat) : Int))), (2, (0, t)), (3, (0, ot)), (4, (0, le)), (5, (2, ((bg : Nat) : Int))), (6, (2, ((sm : Nat) : Int)))] _ _
    have lp47 : ∀ (N47 : Nat) (ca i : Int) (hI : MH), G1 [(o, W), (a, A)] hI → (Only [o + 1] h hI) → (0 ≤ i ∧ i ≤ lb + 1) → (-2 ≤ ca ∧ ca ≤ 2) → (Dg1 (ga hI (o + 1)) 1099511627776) → (∀ j : Int, i ≤ j → ga hI (bg + 1) j = ga h (bg + 1) j) → (∀ j : Int, i ≤ j → ga hI (sm + 1) j = ga h (sm + 1) j) → (nv1 (ga hI (o + 1)) i.toNat + ca * 1073741824 ^ i.toNat = nv1 (lim1 (ga h (bg + 1)) lb) i.toNat + wy * nv1 (lim1 (ga h (sm + 1)) ls) i.toNat) → lb + 1 - i < (N47 : Int) → MW KX1_add Q 0 0 (pcA pgX1_add 47) [(0, (2, ((o : Nat) : Int))), (1, (2, ((a : Nat) : Int))), (2, (0, t)), (3, (0, ot)), (4, (0, le)), (5, (2, ((bg : Nat) : Int))), (6, (2, ((sm : Nat) : Int))), (7, (0, wy)), (8, (0, (lb + 1))), (9, (1, ca)), (11, (0, i))] [] hI := by
      intro N47
      induction N47 with
      | zero => intro ca i hI g47 hO i0 cb dg upb ups eq hm47; exfalso; omega
      | succ N47 ih47 =>
        intro ca i hI g47 hO i0 cb dg upb ups eq hm47
        refine hd_iload pkX1_add rfl rfl ?_
        refine hd_iload pkX1_add rfl rfl ?_
        refine hd_ic_ge pkX1_add rfl (fun c2 => ?_) (fun c2 => ?_)
        · skip
          refine hd_aload pkX1_add rfl rfl (Int.natCast_nonneg _) ?_
          have cut99 : ∀ (sg : Int), ((le = 0 ∧ sg = x.sign) ∨ (le = 1 ∧ sg = y.sign)) → MW KX1_add Q 0 0 (pcA pgX1_add 99) [(0, (2, ((o : Nat) : Int))), (1, (2, ((a : Nat) : Int))), (2, (0, t)), (3, (0, ot)), (4, (0, le)), (5, (2, ((bg : Nat) : Int))), (6, (2, ((sm : Nat) : Int))), (7, (0, wy)), (8, (0, (lb + 1))), (9, (1, ca)), (11, (0, i))] [(0, sg), (2, ((o : Nat) : Int))] hI := by
            intro sg sgv
            refine hd_putI pkX1_add rfl (g47.ob 0 rfl).1 (g47.ob 0 rfl).2.1 (fun hh3 ehh3 => ?_)
            replace ehh3 : hh3 = sa hI o 2 sg := ehh3
            have ghh3 : G1 [(o, W), (a, A)] hh3 := by rw [ehh3]; exact g47.set (by decide) (fun _ _ _ => by decide)
            have o3 : Only [o, o + 1] h hh3 := by rw [ehh3]; exact (hO.mono (by intro c hc; simp only [List.mem_cons, List.not_mem_nil, or_false] at hc ⊢; omega)).set List.mem_cons_self
            have s3 : ga hh3 o 2 = sg := by rw [ehh3, ga_sa _ _ _ (by decide) (by decide), if_pos rfl]
            have d3 : ga hh3 (o + 1) = ga hI (o + 1) := by funext j; rw [ehh3]; exact ga_ne _ _ _ _ (by omega) j
            obtain ⟨hS, ehS⟩ : ∃ x : MH, x = hh3 := ⟨_, rfl⟩
            rw [← ehS] at o3 s3 d3
            refine hd_aload pkX1_add rfl rfl (Int.natCast_nonneg _) ?_
            refine hd_iload pkX1_add rfl rfl ?_
            refine hd_callV pkX1_add rfl (q := (KX1_trim, yX1_trim, 1, 1, 0)) rfl rfl rfl (As := [(0, (lb + 1))]) (rest := []) (c := o) rfl rfl (Nat.le_of_ble_eq_true rfl) (ghh3.ob 0 rfl).1 (ghh3.ob 0 rfl).2.1 (h_X1_trim (o := o) (W := W) (t := lb + 1) o4 W9 (by omega) (ghh3.sub (fun q hq => by simp only [List.mem_cons, List.not_mem_nil, or_false] at hq; (first | (rcases hq with rfl | rfl | rfl | rfl) | (rcases hq with rfl | rfl | rfl) | (rcases hq with rfl | rfl) | (rcases hq with rfl)) <;> simp))) (hd_bV (fun hc4 pt => ?_))
            rw [← ehS] at pt
            have ghc4 : G1 [(o, W), (a, A)] hc4 := ghh3.call (cs := [o]) (by rw [← ehS]; exact pt.1) pt.2.1 (fun q hq => by simp only [List.mem_cons, List.not_mem_nil, or_false] at hq; (first | (rcases hq with rfl | rfl | rfl | rfl) | (rcases hq with rfl | rfl | rfl) | (rcases hq with rfl | rfl) | (rcases hq with rfl)) <;> (first | (left; simp; done) | (right; simp only [List.mem_cons, List.not_mem_nil, or_false, not_or]; omega)))
            refine hd_vret pkX1_add rfl ?_
            have ei : i = lb + 1 := by omega
            subst ei
            rw [lim1_v (by omega) (by omega), lim1_v (by omega) (by omega)] at eq
            obtain ⟨X, eX⟩ : ∃ X : Int, X = nv1 (ga h (bg + 1)) lb.toNat := ⟨_, rfl⟩
            obtain ⟨Y, eY⟩ : ∃ Y : Int, Y = nv1 (ga h (sm + 1)) ls.toNat := ⟨_, rfl⟩
            rw [← eX, ← eY] at eq
            have hX : 0 ≤ X ∧ X < 1073741824 ^ lb.toNat := by rw [eX]; exact nv1_b fun j a b => db j a (by omega)
            have hY : 0 ≤ Y := by rw [eY]; exact (nv1_b fun j a b => ds j a (by omega)).1
            have hXY : Y ≤ X := by rcases lec with ⟨_, _, _, w, w1, w2⟩ | ⟨_, _, _, w, w1, w2⟩ <;> omega
            have hN := nv1_b (f := ga hI (o + 1)) (n := (lb + 1).toNat) fun j a b => dg j a (by omega)
            have pe := p30_s lb.toNat
            have pe2 : (lb + 1).toNat = lb.toNat + 1 := by omega
            have pp := p30_pos lb.toNat
            have wY : wy * Y = Y ∨ wy * Y = -Y := by
              rcases wyb with ⟨w, _⟩ | ⟨w, _⟩ <;> rw [w] <;> omega
            rw [pe2] at hN eq
            rw [pe] at hN eq
            obtain ⟨PW9, ePW⟩ : ∃ x : Int, x = 1073741824 ^ lb.toNat := ⟨_, rfl⟩
            rw [← ePW] at hN eq hX pp
            have c0 : ca = 0 := by
              have : ca = -2 ∨ ca = -1 ∨ ca = 0 ∨ ca = 1 ∨ ca = 2 := by omega
              rcases this with w | w | w | w | w <;> rw [w] at eq <;> omega
            rw [c0, Int.zero_mul, Int.add_zero] at eq
            have tv := pt.2.2.val pt.1 (by rw [d3]; exact dg) (W := W) (by omega) W9 (by omega)
            rw [d3, pe2, eq] at tv
            have fin9 := add_sg (x := x) (y := y) (wy := wy) (M := X + wy * Y) (sg := sg) wyb (by
              rcases lec with ⟨l0, e1, e2, w, w1, w2⟩ | ⟨l0, e1, e2, w, w1, w2⟩
              · refine Or.inl ⟨by omega, by rw [← w1, ← w2, eX, eY], ?_⟩
                rcases sgv with ⟨_, q⟩ | ⟨q, _⟩
                · exact q
                · omega
              · refine Or.inr ⟨by omega, by rw [← w1, ← w2, eX, eY], ?_⟩
                rcases sgv with ⟨q, _⟩ | ⟨_, q⟩
                · omega
                · exact q)
            refine fin _ ghc4 (o3.trans (pt.1.mono (by intro c hc; simp only [List.mem_cons, List.not_mem_nil, or_false] at hc ⊢; omega))) ⟨⟨pt.2.2.1.1, by have := pt.2.2.1.2; omega⟩, tv.2.1, tv.1.trans fin9.1, ?_, tv.2.2.1⟩
            rw [pt.2.2.2.2.2, s3]
            split
            · next q =>
              have z := tv.2.2.2.mp q
              rw [z] at fin9
              have : x + y = 0 := by omega
              rw [this]
              rfl
            · next q =>
              exact fin9.2 (fun z => q (tv.2.2.2.mpr z))
          refine hd_iload pkX1_add rfl rfl ?_
          refine hd_if_eq pkX1_add rfl (fun c5 => ?_) (fun c5 => ?_)
          · skip
            refine hd_aload pkX1_add rfl rfl (Int.natCast_nonneg _) ?_
            refine hd_getI pkX1_add rfl (g47.ob 0 rfl).1 (g47.ob 0 rfl).2.1 (fun v6 ev6 rv6 => ?_)
            replace ev6 : v6 = ga hI o 2 := ev6
            have qv6 : x.sign = v6 := by rw [ev6, hO.ga (by simp only [List.mem_cons, List.not_mem_nil, or_false, not_or]; omega)]; exact bo.2.2.2.1.symm
            subst qv6
            refine cut99 (x.sign) ?_
            · rcases lec with ⟨w, _⟩ | ⟨w, _⟩ <;> first | exact Or.inl ⟨w, by omega⟩ | exact Or.inr ⟨w, by omega⟩
          · skip
            refine hd_iload pkX1_add rfl rfl ?_
            refine hd_goto pkX1_add rfl ?_
            refine cut99 (ot) ?_
            · rcases lec with ⟨w, _⟩ | ⟨w, _⟩ <;> first | exact Or.inl ⟨w, by omega⟩ | exact Or.inr ⟨w, by omega⟩
        · skip
          refine hd_lload pkX1_add rfl rfl ?_
          have cut61 : ∀ (bd : Int), (bd = lim1 (ga h (bg + 1)) lb i) → (0 ≤ bd ∧ bd ≤ 1073741823) → MW KX1_add Q 0 0 (pcA pgX1_add 61) [(0, (2, ((o : Nat) : Int))), (1, (2, ((a : Nat) : Int))), (2, (0, t)), (3, (0, ot)), (4, (0, le)), (5, (2, ((bg : Nat) : Int))), (6, (2, ((sm : Nat) : Int))), (7, (0, wy)), (8, (0, (lb + 1))), (9, (1, ca)), (11, (0, i))] [(0, bd), (1, ca)] hI := by
            intro bd bdv bdb
            refine hd_i2l pkX1_add rfl ?_
            refine hd_ladd pkX1_add rfl (by omega) ?_
            have cut75 : ∀ (sd : Int), (sd = wy * lim1 (ga h (sm + 1)) ls i) → (-1073741823 ≤ sd ∧ sd ≤ 1073741823) → MW KX1_add Q 0 0 (pcA pgX1_add 75) [(0, (2, ((o : Nat) : Int))), (1, (2, ((a : Nat) : Int))), (2, (0, t)), (3, (0, ot)), (4, (0, le)), (5, (2, ((bg : Nat) : Int))), (6, (2, ((sm : Nat) : Int))), (7, (0, wy)), (8, (0, (lb + 1))), (9, (1, ca)), (11, (0, i))] [(0, sd), (1, (ca + bd))] hI := by
              intro sd sdv sdb
              refine hd_i2l pkX1_add rfl ?_
              refine hd_ladd pkX1_add rfl (by omega) ?_
              generalize et9 : ((ca + bd) + sd) = t9
              refine hd_lstore pkX1_add rfl rfl ?_
              change MW _ _ _ _ _ [(12, (1, t9)), (0, (2, ((o : Nat) : Int))), (1, (2, ((a : Nat) : Int))), (2, (0, t)), (3, (0, ot)), (4, (0, le)), (5, (2, ((bg : Nat) : Int))), (6, (2, ((sm : Nat) : Int))), (7, (0, wy)), (8, (0, (lb + 1))), (9, (1, ca)), (11, (0, i))] _ _
              refine hd_aload pkX1_add rfl rfl (Int.natCast_nonneg _) ?_
              refine hd_getR (n := o + 1) pkX1_add rfl (g47.ob 0 rfl).1 (g47.ob 0 rfl).2.1 (g47.rf 0 rfl) ?_
              refine hd_iload pkX1_add rfl rfl ?_
              refine hd_lload pkX1_add rfl rfl ?_
              refine hd_lpush (z := 1073741823) pkX1_add rfl ?_
              refine hd_land (v := (t9 % 1073741824)) pkX1_add rfl (by exact h_and30 _) ?_
              refine hd_l2i pkX1_add rfl (by omega) ?_
              refine hd_iast (n := W) pkX1_add rfl (g47.ar 0 rfl) (by omega) (by omega) (by omega) (fun hh7 ehh7 => ?_)
              have ghh7 : G1 [(o, W), (a, A)] hh7 := by rw [ehh7]; exact g47.set (by omega) (fun qq hq w => absurd w (nx_o qq hq))
              have o2 : Only [o + 1] h hh7 := by rw [ehh7]; exact hO.set List.mem_cons_self
              have f2 : ∀ j : Int, 0 ≤ j → ga hh7 (o + 1) j = if j = i then t9 % 1073741824 else ga hI (o + 1) j := fun j a => by rw [ehh7]; exact ga_sa _ _ _ (by omega) a
              have g2x : ∀ c : Nat, (c = bg ∨ c = sm) → ∀ j : Int, i < j → ga hh7 (c + 1) j = ga hI (c + 1) j := fun c hc j l9 => by
                by_cases q : c + 1 = o + 1
                · rw [q, f2 j (by omega), if_neg (by omega)]
                · rw [ehh7]; exact ga_ne _ _ _ _ q j
              refine hd_lload pkX1_add rfl rfl ?_
              refine hd_ipush (z := 30) pkX1_add rfl ?_
              refine hd_lshr (v := (t9 / 1073741824)) pkX1_add rfl (by exact h_shr30 (by omega)) ?_
              refine hd_lstore pkX1_add rfl rfl ?_
              change MW _ _ _ _ _ [(9, (1, (t9 / 1073741824))), (12, (1, t9)), (0, (2, ((o : Nat) : Int))), (1, (2, ((a : Nat) : Int))), (2, (0, t)), (3, (0, ot)), (4, (0, le)), (5, (2, ((bg : Nat) : Int))), (6, (2, ((sm : Nat) : Int))), (7, (0, wy)), (8, (0, (lb + 1))), (11, (0, i))] _ _
              refine hd_iinc (z := 1) pkX1_add rfl rfl (by omega) rfl ?_
              change MW _ _ _ _ _ [(11, (0, (i + 1))), (9, (1, (t9 / 1073741824))), (12, (1, t9)), (0, (2, ((o : Nat) : Int))), (1, (2, ((a : Nat) : Int))), (2, (0, t)), (3, (0, ot)), (4, (0, le)), (5, (2, ((bg : Nat) : Int))), (6, (2, ((sm : Nat) : Int))), (7, (0, wy)), (8, (0, (lb + 1)))] _ _
              refine hd_goto pkX1_add rfl ?_
              refine m_sub [(0, (2, ((o : Nat) : Int))), (1, (2, ((a : Nat) : Int))), (2, (0, t)), (3, (0, ot)), (4, (0, le)), (5, (2, ((bg : Nat) : Int))), (6, (2, ((sm : Nat) : Int))), (7, (0, wy)), (8, (0, (lb + 1))), (9, (1, (t9 / 1073741824))), (11, (0, (i + 1)))] (List.forall_mem_cons.mpr ⟨rfl, List.forall_mem_cons.mpr ⟨rfl, List.forall_mem_cons.mpr ⟨rfl, List.forall_mem_cons.mpr ⟨rfl, List.forall_mem_cons.mpr ⟨rfl, List.forall_mem_cons.mpr ⟨rfl, List.forall_mem_cons.mpr ⟨rfl, List.forall_mem_cons.mpr ⟨rfl, List.forall_mem_cons.mpr ⟨rfl, List.forall_mem_cons.mpr ⟨rfl, List.forall_mem_cons.mpr ⟨rfl, fun _ h => absurd h List.not_mem_nil⟩⟩⟩⟩⟩⟩⟩⟩⟩⟩⟩) ?_
              refine ih47  ((t9 / 1073741824)) ((i + 1)) hh7 ghh7 ?_ ?_ ?_ ?_ ?_ ?_ ?_ ?_
              · exact o2
              · omega
              · omega
              · intro j a b
                rw [f2 j a]
                split
                · omega
                · exact dg j a b
              · intro j a
                rw [g2x bg (Or.inl rfl) j (by omega)]
                exact upb j (by omega)
              · intro j a
                rw [g2x sm (Or.inr rfl) j (by omega)]
                exact ups j (by omega)
              · have z := sum1 (x := lim1 (ga h (bg + 1)) lb i) (y := lim1 (ga h (sm + 1)) ls i) (b := t9 % 1073741824) (t := t9 / 1073741824) eq (by rw [← bdv, ← sdv]; omega)
                rw [show (i + 1).toNat = i.toNat + 1 by omega]
                show nv1 (ga hh7 (o + 1)) i.toNat + ga hh7 (o + 1) (i.toNat : Int) * 1073741824 ^ i.toNat + _ = nv1 (lim1 (ga h (bg + 1)) lb) i.toNat + lim1 (ga h (bg + 1)) lb (i.toNat : Int) * 1073741824 ^ i.toNat + wy * (nv1 (lim1 (ga h (sm + 1)) ls) i.toNat + lim1 (ga h (sm + 1)) ls (i.toNat : Int) * 1073741824 ^ i.toNat)
                rw [show (i.toNat : Int) = i by omega, f2 i (by omega), if_pos rfl, nv1_cg (f := ga hh7 (o + 1)) (g := ga hI (o + 1)) (fun j a b => by rw [f2 j a, if_neg (by omega)])]
                exact z
              · omega
            refine hd_iload pkX1_add rfl rfl ?_
            refine hd_aload pkX1_add rfl rfl (Int.natCast_nonneg _) ?_
            refine hd_getI pkX1_add rfl (g47 _ msm).1.1 (g47 _ msm).1.2.1 (fun v8 ev8 rv8 => ?_)
            replace ev8 : v8 = ga hI sm 1 := ev8
            have qv8 : ls = v8 := by rw [ev8, hO.ga (by simp only [List.mem_cons, List.not_mem_nil, or_false, not_or]; omega)]; exact els.symm
            subst qv8
            refine hd_ic_ge pkX1_add rfl (fun c9 => ?_) (fun c9 => ?_)
            · skip
              refine hd_ipush (z := 0) pkX1_add rfl ?_
              refine cut75 (0) ?_ ?_
              · show _ = wy * if i < ls then ga h (sm + 1) i else 0
                first | (rw [if_pos (by omega)]) | (rw [if_neg (by omega), Int.mul_zero])
              · first | omega | (rcases wyb with ⟨w, _⟩ | ⟨w, _⟩ <;> subst w <;> omega)
            · skip
              refine hd_iload pkX1_add rfl rfl ?_
              refine hd_aload pkX1_add rfl rfl (Int.natCast_nonneg _) ?_
              refine hd_getR (n := sm + 1) pkX1_add rfl (g47 _ msm).1.1 (g47 _ msm).1.2.1 (g47 _ msm).2.2 ?_
              refine hd_iload pkX1_add rfl rfl ?_
              refine hd_iald (n := Ws) pkX1_add rfl (g47 _ msm).2.1 (by omega) (by omega) (fun v10 ev10 rv10 => ?_)
              have qv10 : ga h (sm + 1) i = v10 := by rw [ev10]; exact (ups i (Int.le_refl _)).symm
              have b8 := ds i (by omega) (by omega)
              subst qv10
              refine hd_imul pkX1_add rfl (by rcases wyb with ⟨w, _⟩ | ⟨w, _⟩ <;> rw [w] <;> omega) ?_
              refine hd_goto pkX1_add rfl ?_
              refine cut75 ((wy * (ga h (sm + 1) i))) ?_ ?_
              · show _ = wy * if i < ls then ga h (sm + 1) i else 0
                first | (rw [if_pos (by omega)]) | (rw [if_neg (by omega), Int.mul_zero])
              · first | omega | (rcases wyb with ⟨w, _⟩ | ⟨w, _⟩ <;> subst w <;> omega)
          refine hd_iload pkX1_add rfl rfl ?_
          refine hd_aload pkX1_add rfl rfl (Int.natCast_nonneg _) ?_
          refine hd_getI pkX1_add rfl (g47 _ mbg).1.1 (g47 _ mbg).1.2.1 (fun v11 ev11 rv11 => ?_)
          replace ev11 : v11 = ga hI bg 1 := ev11
          have qv11 : lb = v11 := by rw [ev11, hO.ga (by simp only [List.mem_cons, List.not_mem_nil, or_false, not_or]; omega)]; exact elb.symm
          subst qv11
          refine hd_ic_ge pkX1_add rfl (fun c12 => ?_) (fun c12 => ?_)
          · skip
            refine hd_ipush (z := 0) pkX1_add rfl ?_
            refine cut61 (0) ?_ ?_
            · show _ = if i < lb then ga h (bg + 1) i else 0
              first | (rw [if_pos (by omega)]) | (rw [if_neg (by omega)])
            · omega
          · skip
            refine hd_aload pkX1_add rfl rfl (Int.natCast_nonneg _) ?_
            refine hd_getR (n := bg + 1) pkX1_add rfl (g47 _ mbg).1.1 (g47 _ mbg).1.2.1 (g47 _ mbg).2.2 ?_
            refine hd_iload pkX1_add rfl rfl ?_
            refine hd_iald (n := Wb) pkX1_add rfl (g47 _ mbg).2.1 (by omega) (by omega) (fun v13 ev13 rv13 => ?_)
            have qv13 : ga h (bg + 1) i = v13 := by rw [ev13]; exact (upb i (Int.le_refl _)).symm
            have b9 := db i (by omega) (by omega)
            subst qv13
            refine hd_goto pkX1_add rfl ?_
            refine cut61 ((ga h (bg + 1) i)) ?_ ?_
            · show _ = if i < lb then ga h (bg + 1) i else 0
              first | (rw [if_pos (by omega)]) | (rw [if_neg (by omega)])
            · omega
    refine m_sub [(0, (2, ((o : Nat) : Int))), (1, (2, ((a : Nat) : Int))), (2, (0, t)), (3, (0, ot)), (4, (0, le)), (5, (2, ((bg : Nat) : Int))), (6, (2, ((sm : Nat) : Int))), (7, (0, wy)), (8, (0, (lb + 1))), (9, (1, 0)), (11, (0, 0))] (List.forall_mem_cons.mpr ⟨rfl, List.forall_mem_cons.mpr ⟨rfl, List.forall_mem_cons.mpr ⟨rfl, List.forall_mem_cons.mpr ⟨rfl, List.forall_mem_cons.mpr ⟨rfl, List.forall_mem_cons.mpr ⟨rfl, List.forall_mem_cons.mpr ⟨rfl, List.forall_mem_cons.mpr ⟨rfl, List.forall_mem_cons.mpr ⟨rfl, List.forall_mem_cons.mpr ⟨rfl, List.forall_mem_cons.mpr ⟨rfl, fun _ h => absurd h List.not_mem_nil⟩⟩⟩⟩⟩⟩⟩⟩⟩⟩⟩) ?_
    refine lp47 ((lb + 1 - (0)) + 1).toNat (0) (0) h g ?_ ?_ ?_ ?_ ?_ ?_ ?_ ?_
    · exact Only.refl _ _
    · omega
    · omega
    · exact bo.2.1
    · intro j _
      rfl
    · intro j _
      rfl
    · show (0 : Int) + 0 * _ = 0 + wy * 0
      rw [Int.zero_mul, Int.mul_zero]
    · omega
  refine hd_aload pkX1_add rfl rfl (Int.natCast_nonneg _) ?_
  refine hd_getI pkX1_add rfl (g.ob 0 rfl).1 (g.ob 0 rfl).2.1 (fun v14 ev14 rv14 => ?_)
  replace ev14 : v14 = ga h o 2 := ev14
  have qv14 : x.sign = v14 := by rw [ev14]; exact bo.2.2.2.1.symm
  subst qv14
  refine hd_iload pkX1_add rfl rfl ?_
  refine hd_imul pkX1_add rfl (by have s1 := sg_case x; have s2 := sg_case y; rw [eot]; rcases s1 with ⟨_, e1⟩ | ⟨_, e1⟩ | ⟨_, e1⟩ <;> rcases s2 with ⟨_, e2⟩ | ⟨_, e2⟩ | ⟨_, e2⟩ <;> rw [e1, e2] <;> decide) ?_
  refine hd_if_ge pkX1_add rfl (fun c15 => ?_) (fun c15 => ?_)
  · skip
    refine hd_ipush (z := 1) pkX1_add rfl ?_
    refine cut33 (1) ?_
    · rw [← eot]
      first | exact Or.inl ⟨rfl, by omega⟩ | exact Or.inr ⟨rfl, by omega⟩
  · skip
    refine hd_ipush (z := (-1)) pkX1_add rfl ?_
    refine hd_goto pkX1_add rfl ?_
    refine cut33 ((-1)) ?_
    · rw [← eot]
      first | exact Or.inl ⟨rfl, by omega⟩ | exact Or.inr ⟨rfl, by omega⟩
set_option maxRecDepth 20000 in
set_option maxHeartbeats 8000000 in
theorem h_X1_add {h : MH} {o W a A : Nat} (o4 : 3 ≤ o) (W9 : W ≤ 1000) (a4 : 3 ≤ a) (A9 : A ≤ 1000) {Vo Va t : Int} (ht : t = 1 ∨ t = -1) (oa : o + 1 < a ∨ a + 1 < o) (bo : BV1 h o W Vo) (ba : BV1 h a A Va) (r1 : ga h o 1 + 1 ≤ (W : Int)) (r2 : ga h a 1 + 1 ≤ (W : Int)) (g : G1 [(o, W), (a, A)] h) : MCal KX1_add yX1_add 0 0 [(2, ((o : Nat) : Int)), (2, ((a : Nat) : Int)), (0, t)] h (mRV fun h' => Only [o, o + 1] h h' ∧ G1 [(o, W), (a, A)] h' ∧ BV1 h' o W (Vo + t * Va)) := by
  refine MCal.ofMW (Or.inl rfl) ⟨cp_X1, rfl⟩ (Nat.le_of_ble_eq_true rfl) ?_
  generalize eQ : (mRV fun h' => Only [o, o + 1] h h' ∧ G1 [(o, W), (a, A)] h' ∧ BV1 h' o W (Vo + t * Va) : MO → MH → Prop) = Q
  change MW KX1_add Q 0 0 (pcA pgX1_add 0) [(0, (2, ((o : Nat) : Int))), (1, (2, ((a : Nat) : Int))), (2, (0, t))] [] h
  refine hd_locI (i := 2) rfl (fun rt => ?_)
  have nW := bo.1
  have mA := ba.1
  refine hd_iload pkX1_add rfl rfl ?_
  refine hd_aload pkX1_add rfl rfl (Int.natCast_nonneg _) ?_
  refine hd_getI pkX1_add rfl (g.ob 1 rfl).1 (g.ob 1 rfl).2.1 (fun v1 ev1 rv1 => ?_)
  replace ev1 : v1 = ga h a 2 := ev1
  have qv1 : Va.sign = v1 := by rw [ev1]; exact ba.2.2.2.1.symm
  subst qv1
  refine hd_imul pkX1_add rfl (by have s1 := sign_b Va; rcases ht with w | w <;> rw [w] <;> omega) ?_
  generalize eot : (t * Va.sign) = ot
  have eo : ot = (t * Va).sign := by rw [← eot]; rcases ht with w | w <;> rw [w, Int.sign_mul] <;> rfl
  refine hd_istore pkX1_add rfl rfl ?_
  change MW _ _ _ _ _ [(3, (0, ot)), (0, (2, ((o : Nat) : Int))), (1, (2, ((a : Nat) : Int))), (2, (0, t))] _ _
  refine hd_aload pkX1_add rfl rfl (Int.natCast_nonneg _) ?_
  refine hd_aload pkX1_add rfl rfl (Int.natCast_nonneg _) ?_
  refine hd_callV pkX1_add rfl (q := (KX1_compareSize, yX1_compareSize, 1, 1, 0)) rfl rfl rfl (As := [(2, ((a : Nat) : Int))]) (rest := []) (c := o) rfl rfl (Nat.le_of_ble_eq_true rfl) (g.ob 0 rfl).1 (g.ob 0 rfl).2.1 (h_X1_compareSize (o := o) (W := W) (a := a) (A := A) o4 W9 a4 A9 oa bo ba g) (hd_bI (fun cw hc2 pc => ?_))
  obtain ⟨pc, ehc2⟩ := pc
  replace ehc2 := ehc2.symm
  subst ehc2
  refine hd_if_ge pkX1_add rfl (fun c3 => ?_) (fun c3 => ?_)
  · skip
    refine hd_ipush (z := 0) pkX1_add rfl ?_
    refine hd_istore pkX1_add rfl rfl ?_
    change MW _ _ _ _ _ [(4, (0, 0)), (3, (0, ot)), (0, (2, ((o : Nat) : Int))), (1, (2, ((a : Nat) : Int))), (2, (0, t))] _ _
    refine hd_iload pkX1_add rfl rfl ?_
    refine hd_if_eq pkX1_add rfl (fun c4 => ?_) (fun c4 => ?_)
    · skip
      refine hd_aload pkX1_add rfl rfl (Int.natCast_nonneg _) ?_
      refine hd_astore pkX1_add rfl (Int.natCast_nonneg _) rfl ?_
      change MW _ _ _ _ _ [(5, (2, ((o : Nat) : Int))), (4, (0, 0)), (3, (0, ot)), (0, (2, ((o : Nat) : Int))), (1, (2, ((a : Nat) : Int))), (2, (0, t))] _ _
      refine hd_iload pkX1_add rfl rfl ?_
      refine hd_if_eq pkX1_add rfl (fun c5 => ?_) (fun c5 => ?_)
      · skip
        refine hd_aload pkX1_add rfl rfl (Int.natCast_nonneg _) ?_
        refine hd_astore pkX1_add rfl (Int.natCast_nonneg _) rfl ?_
        change MW _ _ _ _ _ [(6, (2, ((a : Nat) : Int))), (5, (2, ((o : Nat) : Int))), (4, (0, 0)), (3, (0, ot)), (0, (2, ((o : Nat) : Int))), (1, (2, ((a : Nat) : Int))), (2, (0, t))] _ _
        refine m_sub [(0, (2, ((o : Nat) : Int))), (1, (2, ((a : Nat) : Int))), (2, (0, t)), (3, (0, ot)), (4, (0, 0)), (5, (2, ((o : Nat) : Int))), (6, (2, ((a : Nat) : Int)))] (List.forall_mem_cons.mpr ⟨rfl, List.forall_mem_cons.mpr ⟨rfl, List.forall_mem_cons.mpr ⟨rfl, List.forall_mem_cons.mpr ⟨rfl, List.forall_mem_cons.mpr ⟨rfl, List.forall_mem_cons.mpr ⟨rfl, List.forall_mem_cons.mpr ⟨rfl, fun _ h => absurd h List.not_mem_nil⟩⟩⟩⟩⟩⟩⟩) ?_
        have ay : ((t * Va).natAbs : Int) = Va.natAbs := by rcases ht with w | w <;> rw [w] <;> omega
        have ls9 : ga h a 1 ≤ ga h o 1 := by
          by_cases w : ga h a 1 ≤ ga h o 1
          · exact w
          · have z := nv1_len (f := ga h (o + 1)) (g := ga h (a + 1)) (n := (ga h o 1).toNat) (m := (ga h a 1).toNat) (by omega) (fun j a9 b9 => bo.2.1 j a9 (by omega)) (fun j a9 b9 => ba.2.1 j a9 (by omega)) (by rw [show (((ga h a 1).toNat : Nat) : Int) - 1 = ga h a 1 - 1 by omega]; exact ba.2.2.2.2 (by omega))
            rw [bo.2.2.1, ba.2.2.1] at z
            omega
        refine h_X1_addT (x := Vo) (y := t * Va) (bg := o) (Wb := W) (sm := a) (Ws := A) o4 W9 a4 A9 oa eo bo List.mem_cons_self (List.mem_cons_of_mem _ List.mem_cons_self) (by omega) (by omega) rfl rfl bo.2.1 ba.2.1 (by omega) (by omega) (Or.inl ⟨rfl, rfl, rfl, by omega, bo.2.2.1, ba.2.2.1.trans ay.symm⟩) (fun h' gg oo bb => ?_) g
        subst eQ
        exact ⟨rfl, oo, gg, bb⟩
      · exfalso
        omega
    · exfalso
      omega
  · skip
    refine hd_ipush (z := 1) pkX1_add rfl ?_
    refine hd_goto pkX1_add rfl ?_
    refine hd_istore pkX1_add rfl rfl ?_
    change MW _ _ _ _ _ [(4, (0, 1)), (3, (0, ot)), (0, (2, ((o : Nat) : Int))), (1, (2, ((a : Nat) : Int))), (2, (0, t))] _ _
    refine hd_iload pkX1_add rfl rfl ?_
    refine hd_if_eq pkX1_add rfl (fun c6 => ?_) (fun c6 => ?_)
    · exfalso
      omega
    · skip
      refine hd_aload pkX1_add rfl rfl (Int.natCast_nonneg _) ?_
      refine hd_goto pkX1_add rfl ?_
      refine hd_astore pkX1_add rfl (Int.natCast_nonneg _) rfl ?_
      change MW _ _ _ _ _ [(5, (2, ((a : Nat) : Int))), (4, (0, 1)), (3, (0, ot)), (0, (2, ((o : Nat) : Int))), (1, (2, ((a : Nat) : Int))), (2, (0, t))] _ _
      refine hd_iload pkX1_add rfl rfl ?_
      refine hd_if_eq pkX1_add rfl (fun c7 => ?_) (fun c7 => ?_)
      · exfalso
        omega
      · skip
        refine hd_aload pkX1_add rfl rfl (Int.natCast_nonneg _) ?_
        refine hd_goto pkX1_add rfl ?_
        refine hd_astore pkX1_add rfl (Int.natCast_nonneg _) rfl ?_
        change MW _ _ _ _ _ [(6, (2, ((o : Nat) : Int))), (5, (2, ((a : Nat) : Int))), (4, (0, 1)), (3, (0, ot)), (0, (2, ((o : Nat) : Int))), (1, (2, ((a : Nat) : Int))), (2, (0, t))] _ _
        refine m_sub [(0, (2, ((o : Nat) : Int))), (1, (2, ((a : Nat) : Int))), (2, (0, t)), (3, (0, ot)), (4, (0, 1)), (5, (2, ((a : Nat) : Int))), (6, (2, ((o : Nat) : Int)))] (List.forall_mem_cons.mpr ⟨rfl, List.forall_mem_cons.mpr ⟨rfl, List.forall_mem_cons.mpr ⟨rfl, List.forall_mem_cons.mpr ⟨rfl, List.forall_mem_cons.mpr ⟨rfl, List.forall_mem_cons.mpr ⟨rfl, List.forall_mem_cons.mpr ⟨rfl, fun _ h => absurd h List.not_mem_nil⟩⟩⟩⟩⟩⟩⟩) ?_
        have ay : ((t * Va).natAbs : Int) = Va.natAbs := by rcases ht with w | w <;> rw [w] <;> omega
        have ls9 : ga h o 1 ≤ ga h a 1 := by
          by_cases w : ga h o 1 ≤ ga h a 1
          · exact w
          · have z := nv1_len (f := ga h (a + 1)) (g := ga h (o + 1)) (n := (ga h a 1).toNat) (m := (ga h o 1).toNat) (by omega) (fun j a9 b9 => ba.2.1 j a9 (by omega)) (fun j a9 b9 => bo.2.1 j a9 (by omega)) (by rw [show (((ga h o 1).toNat : Nat) : Int) - 1 = ga h o 1 - 1 by omega]; exact bo.2.2.2.2 (by omega))
            rw [ba.2.2.1, bo.2.2.1] at z
            omega
        refine h_X1_addT (x := Vo) (y := t * Va) (bg := a) (Wb := A) (sm := o) (Ws := W) o4 W9 a4 A9 oa eo bo (List.mem_cons_of_mem _ List.mem_cons_self) List.mem_cons_self (by omega) (by omega) rfl rfl ba.2.1 bo.2.1 (by omega) (by omega) (Or.inr ⟨rfl, rfl, rfl, by omega, ba.2.2.1.trans ay.symm, bo.2.2.1⟩) (fun h' gg oo bb => ?_) g
        subst eQ
        exact ⟨rfl, oo, gg, bb⟩
