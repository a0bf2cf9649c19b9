/-! X1 by hand: division -/
set_option maxRecDepth 20000 in
set_option maxHeartbeats 8000000 in
theorem h_X1_set0 {h : MH} {o W : Nat} (o4 : 3 ≤ o) (W9 : W ≤ 1000)  (g : G1 [(o, W)] h) : MCal KX1_set yX1_set 0 0 [(2, ((o : Nat) : Int)), (1, 0)] h (mRV fun h' => Only [o] h h' ∧ G1 [(o, W)] h' ∧ ga h' o 1 = 0 ∧ ga h' o 2 = 0) := by
  refine MCal.ofMW (Or.inl rfl) ⟨cp_X1, rfl⟩ (Nat.le_of_ble_eq_true rfl) ?_
  generalize eQ : (mRV fun h' => Only [o] h h' ∧ G1 [(o, W)] h' ∧ ga h' o 1 = 0 ∧ ga h' o 2 = 0 : MO → MH → Prop) = Q
  change MW KX1_set Q 0 0 (pcA pgX1_set 0) [(0, (2, ((o : Nat) : Int))), (1, (1, 0))] [] h
  have nx_o : ∀ qq ∈ ([(o, W)] : List (Nat × Nat)), ¬ o + 1 = qq.1 := fun qq hq => by
    simp only [List.mem_cons, List.not_mem_nil, or_false] at hq
    rcases hq with rfl <;> (dsimp only; omega)
  refine hd_aload pkX1_set rfl rfl (Int.natCast_nonneg _) ?_
  refine hd_lload pkX1_set rfl rfl ?_
  refine hd_lpush (z := 0) pkX1_set rfl ?_
  refine hd_lc_le pkX1_set rfl (fun c1 => ?_) (fun c1 => ?_)
  · skip
    refine hd_lload pkX1_set rfl rfl ?_
    refine hd_lpush (z := 0) pkX1_set rfl ?_
    refine hd_lc_ge pkX1_set rfl (fun c2 => ?_) (fun c2 => ?_)
    · skip
      refine hd_ipush (z := 0) pkX1_set rfl ?_
      refine hd_putI pkX1_set rfl (g.ob 0 rfl).1 (g.ob 0 rfl).2.1 (fun hh3 ehh3 => ?_)
      replace ehh3 : hh3 = sa h o 2 0 := ehh3
      have ghh3 : G1 [(o, W)] hh3 := by rw [ehh3]; exact g.set (by decide) (fun _ _ _ => by decide)
      have o1 : Only [o] h hh3 := by rw [ehh3]; exact (Only.refl _ _).set List.mem_cons_self
      have s1 : ga hh3 o 2 = 0 := by rw [ehh3, ga_sa _ _ _ (by decide) (by decide), if_pos rfl]
      refine hd_aload pkX1_set rfl rfl (Int.natCast_nonneg _) ?_
      refine hd_ipush (z := 0) pkX1_set rfl ?_
      refine hd_putI pkX1_set rfl (ghh3.ob 0 rfl).1 (ghh3.ob 0 rfl).2.1 (fun hh4 ehh4 => ?_)
      replace ehh4 : hh4 = sa hh3 o 1 0 := ehh4
      have ghh4 : G1 [(o, W)] hh4 := by rw [ehh4]; exact ghh3.set (by decide) (fun _ _ _ => by decide)
      have o2 : Only [o] h hh4 := by rw [ehh4]; exact o1.set List.mem_cons_self
      have s2 : ga hh4 o 2 = 0 := by rw [ehh4, ga_sa _ _ _ (by decide) (by decide), if_neg (by decide)]; exact s1
      have l2 : ga hh4 o 1 = 0 := by rw [ehh4, ga_sa _ _ _ (by decide) (by decide), if_pos rfl]
      refine hd_lload pkX1_set rfl rfl ?_
      refine hd_lpush (z := 0) pkX1_set rfl ?_
      refine hd_lc_le pkX1_set rfl (fun c5 => ?_) (fun c5 => ?_)
      · skip
        refine hd_lload pkX1_set rfl rfl ?_
        refine hd_lstore pkX1_set rfl rfl ?_
        change MW _ _ _ _ _ [(3, (1, 0)), (0, (2, ((o : Nat) : Int))), (1, (1, 0))] _ _
        refine hd_lload pkX1_set rfl rfl ?_
        refine hd_lpush (z := 0) pkX1_set rfl ?_
        refine hd_lc_eq pkX1_set rfl (fun c6 => ?_) (fun c6 => ?_)
        · skip
          refine hd_vret pkX1_set rfl ?_
          subst eQ
          exact ⟨rfl, o2, ghh4, l2, s2⟩
        · exfalso
          omega
      · exfalso
        omega
    · exfalso
      omega
  · exfalso
    omega
set_option maxRecDepth 20000 in
set_option maxHeartbeats 8000000 in
theorem h_X1_divB {h : MH} {o W v V q Y s Z : Nat} {Q : MO → MH → Prop} {n m wy sh j P Qv Rv : Int} (o4 : 3 ≤ o) (W9 : W ≤ 1000) (v4 : 3 ≤ v) (V9 : V ≤ 1000) (q4 : 3 ≤ q) (Y9 : Y ≤ 1000) (s4 : 3 ≤ s) (Z9 : Z ≤ 1000) (ov : (o = v ∧ W = V) ∨ o + 1 < v ∨ v + 1 < o) (oq : o + 1 < q ∨ q + 1 < o) (os : o + 1 < s ∨ s + 1 < o) (vq : v + 1 < q ∨ q + 1 < v) (vs : v + 1 < s ∨ s + 1 < v) (qs : q + 1 < s ∨ s + 1 < q) (nb : 1 ≤ n ∧ n ≤ (W : Int)) (mb : n ≤ m ∧ m - n + 1 ≤ (Y : Int)) (shb : 0 ≤ sh ∧ sh ≤ 29) (eP : P = 2 ^ sh.toNat) (dgo : Dg1 (ga h (o + 1)) 1099511627776) (dgq : Dg1 (ga h (q + 1)) 1099511627776) (qn : nv1 (ga h (q + 1)) (m - n + 1).toNat = Qv) (rn : nv1 (ga h (o + 1)) n.toNat = P * Rv)
    (fin : ∀ h', G1 [(o, W), (v, V), (q, Y), (s, Z)] h' → Only [o, o + 1, q] h h' → Dg1 (ga h' (o + 1)) 1099511627776 → ga h' (q + 1) = ga h (q + 1) → (0 ≤ ga h' q 1 ∧ ga h' q 1 ≤ m - n + 1) → nv1 (ga h' (q + 1)) (ga h' q 1).toNat = Qv → (1 ≤ ga h' q 1 → 1 ≤ ga h' (q + 1) (ga h' q 1 - 1)) → ga h' q 2 = (if ga h' q 1 = 0 then 0 else wy) → (0 ≤ ga h' o 1 ∧ ga h' o 1 ≤ n) → nv1 (ga h' (o + 1)) (ga h' o 1).toNat = Rv → (1 ≤ ga h' o 1 → 1 ≤ ga h' (o + 1) (ga h' o 1 - 1)) → ga h' o 2 = (if ga h' o 1 = 0 then 0 else ga h o 2) → Q (0, (0, 0)) h')
    (g : G1 [(o, W), (v, V), (q, Y), (s, Z)] h) : MW KX1_divide Q 0 0 (pcA pgX1_divide 80) [(0, (2, ((o : Nat) : Int))), (1, (2, ((v : Nat) : Int))), (2, (2, ((q : Nat) : Int))), (3, (2, ((s : Nat) : Int))), (4, (0, n)), (5, (0, m)), (6, (0, wy)), (7, (0, sh)), (8, (0, j))] [] h := by
  refine hd_locI (i := 4) rfl (fun rr4 => ?_)
  refine hd_locI (i := 5) rfl (fun rr5 => ?_)
  refine hd_locI (i := 6) rfl (fun rr6 => ?_)
  refine hd_locI (i := 7) rfl (fun rr7 => ?_)
  refine hd_locI (i := 8) rfl (fun rr8 => ?_)
  have nx_o : ∀ qq ∈ ([(o, W), (v, V), (q, Y), (s, Z)] : List (Nat × Nat)), ¬ o + 1 = qq.1 := fun qq hq => by
    simp only [List.mem_cons, List.not_mem_nil, or_false] at hq
    rcases hq with rfl | rfl | rfl | rfl <;> (dsimp only; omega)
  have nx_q : ∀ qq ∈ ([(o, W), (v, V), (q, Y), (s, Z)] : List (Nat × Nat)), ¬ q + 1 = qq.1 := fun qq hq => by
    simp only [List.mem_cons, List.not_mem_nil, or_false] at hq
    rcases hq with rfl | rfl | rfl | rfl <;> (dsimp only; omega)
  have Pb := p2_b (n := sh.toNat) (by omega)
  rw [← eP] at Pb
  refine hd_aload pkX1_divide rfl rfl (Int.natCast_nonneg _) ?_
  refine hd_iload pkX1_divide rfl rfl ?_
  refine hd_putI pkX1_divide rfl (g.ob 2 rfl).1 (g.ob 2 rfl).2.1 (fun hh1 ehh1 => ?_)
  replace ehh1 : hh1 = sa h q 2 wy := ehh1
  have ghh1 : G1 [(o, W), (v, V), (q, Y), (s, Z)] hh1 := by rw [ehh1]; exact g.set (by decide) (fun _ _ _ => by decide)
  have o10 : Only [q] h hh1 := by rw [ehh1]; exact (Only.refl _ _).set List.mem_cons_self
  have s10 : ga hh1 q 2 = wy := by rw [ehh1, ga_sa _ _ _ (by decide) (by decide), if_pos rfl]
  obtain ⟨hH, ehH⟩ : ∃ x : MH, x = hh1 := ⟨_, rfl⟩
  rw [← ehH] at o10 s10
  refine hd_aload pkX1_divide rfl rfl (Int.natCast_nonneg _) ?_
  refine hd_iload pkX1_divide rfl rfl ?_
  refine hd_iload pkX1_divide rfl rfl ?_
  refine hd_isub pkX1_divide rfl (by omega) ?_
  refine hd_ipush (z := 1) pkX1_divide rfl ?_
  refine hd_iadd pkX1_divide rfl (by omega) ?_
  refine hd_callV pkX1_divide rfl (q := (KX1_trim, yX1_trim, 1, 1, 0)) rfl rfl rfl (As := [(0, ((m - n) + 1))]) (rest := []) (c := q) rfl rfl (Nat.le_of_ble_eq_true rfl) (ghh1.ob 2 rfl).1 (ghh1.ob 2 rfl).2.1 (h_X1_trim (o := q) (W := Y) (t := m - n + 1) q4 Y9 (by omega) (ghh1.sub (fun q hq => by simp only [List.mem_cons, List.not_mem_nil, or_false] at hq; (first | (rcases hq with rfl | rfl | rfl | rfl) | (rcases hq with rfl | rfl | rfl) | (rcases hq with rfl | rfl) | (rcases hq with rfl)) <;> simp))) (hd_bV (fun hc2 pt => ?_))
  rw [← ehH] at pt
  have ghc2 : G1 [(o, W), (v, V), (q, Y), (s, Z)] hc2 := ghh1.call (cs := [q]) (by rw [← ehH]; exact pt.1) pt.2.1 (fun q hq => by simp only [List.mem_cons, List.not_mem_nil, or_false] at hq; rcases hq with rfl | rfl | rfl | rfl <;> (first | (left; simp; done) | (right; simp only [List.mem_cons, List.not_mem_nil, or_false, not_or]; omega) | (rcases ov with ⟨e1, e2⟩ | ov <;> first | (left; simp [e1, e2]; done) | (right; simp only [List.mem_cons, List.not_mem_nil, or_false, not_or]; omega))))
  obtain ⟨hI, ehI⟩ : ∃ x : MH, x = hc2 := ⟨_, rfl⟩
  rw [← ehI] at pt
  have eqH : ga hH (q + 1) = ga h (q + 1) := onlyF o10 (by simp only [List.mem_cons, List.not_mem_nil, or_false, not_or]; omega)
  have tq := pt.2.2.val pt.1 (by rw [eqH]; exact dgq) (W := Y) (by omega) Y9 (by omega)
  rw [eqH, qn] at tq
  have eoI : ga hI (o + 1) = ga h (o + 1) := (onlyF pt.1 (by simp only [List.mem_cons, List.not_mem_nil, or_false, not_or]; omega)).trans (onlyF o10 (by simp only [List.mem_cons, List.not_mem_nil, or_false, not_or]; omega))
  obtain ⟨R9, eR8⟩ : ∃ x : Int, x = 2 ^ (30 - sh.toNat) := ⟨_, rfl⟩
  have eR9 : R9 = 2 ^ (30 - sh).toNat := by rw [eR8, show (30 - sh).toNat = 30 - sh.toNat by omega]
  have PR9 : P * R9 = 1073741824 := by rw [eR8]; exact Pb.2.2
  have R9b : 1 ≤ R9 ∧ R9 ≤ 1073741824 := by rw [eR8]; have := p2_b (n := 30 - sh.toNat) (by omega); omega
  have mod9 : ∀ x : Int, x * R9 % 1073741824 = x % P * R9 := fun x => by
    rw [← PR9, Int.mul_comm x, Int.mul_comm P, Int.mul_emod_mul_of_pos _ _ (by omega), Int.mul_comm]
  refine hd_ipush (z := 0) pkX1_divide rfl ?_
  refine hd_istore pkX1_divide rfl rfl ?_
  change MW _ _ _ _ _ [(8, (0, 0)), (0, (2, ((o : Nat) : Int))), (1, (2, ((v : Nat) : Int))), (2, (2, ((q : Nat) : Int))), (3, (2, ((s : Nat) : Int))), (4, (0, n)), (5, (0, m)), (6, (0, wy)), (7, (0, sh))] _ _
  have lp92 : ∀ (N92 : Nat) (i : Int) (hK : MH), G1 [(o, W), (v, V), (q, Y), (s, Z)] hK → (Only [o + 1] hI hK) → (0 ≤ i ∧ i ≤ n) → (Dg1 (ga hK (o + 1)) 1099511627776) → (∀ x : Int, i ≤ x → ga hK (o + 1) x = ga hI (o + 1) x) → (P * nv1 (ga hK (o + 1)) i.toNat + lim1 (ga hI (o + 1)) n 0 % P = nv1 (lim1 (ga hI (o + 1)) n) i.toNat + lim1 (ga hI (o + 1)) n i % P * 1073741824 ^ i.toNat) → n - i < (N92 : Int) → MW KX1_divide Q 0 0 (pcA pgX1_divide 92) [(0, (2, ((o : Nat) : Int))), (1, (2, ((v : Nat) : Int))), (2, (2, ((q : Nat) : Int))), (3, (2, ((s : Nat) : Int))), (4, (0, n)), (5, (0, m)), (6, (0, wy)), (7, (0, sh)), (8, (0, i))] [] hK := by
    intro N92
    induction N92 with
    | zero => intro i hK g92 hO5 i0 dg un eqd hm92; exfalso; omega
    | succ N92 ih92 =>
      intro i hK g92 hO5 i0 dg un eqd hm92
      refine hd_iload pkX1_divide rfl rfl ?_
      refine hd_iload pkX1_divide rfl rfl ?_
      refine hd_ic_ge pkX1_divide rfl (fun c3 => ?_) (fun c3 => ?_)
      · skip
        refine hd_aload pkX1_divide rfl rfl (Int.natCast_nonneg _) ?_
        refine hd_iload pkX1_divide rfl rfl ?_
        refine hd_callV pkX1_divide rfl (q := (KX1_trim, yX1_trim, 1, 1, 0)) rfl rfl rfl (As := [(0, n)]) (rest := []) (c := o) rfl rfl (Nat.le_of_ble_eq_true rfl) (g92.ob 0 rfl).1 (g92.ob 0 rfl).2.1 (h_X1_trim (o := o) (W := W) (t := n) o4 W9 (by omega) (g92.sub (fun q hq => by simp only [List.mem_cons, List.not_mem_nil, or_false] at hq; (first | (rcases hq with rfl | rfl | rfl | rfl) | (rcases hq with rfl | rfl | rfl) | (rcases hq with rfl | rfl) | (rcases hq with rfl)) <;> simp))) (hd_bV (fun hc4 pu => ?_))
        have ghc4 : G1 [(o, W), (v, V), (q, Y), (s, Z)] hc4 := g92.call (cs := [o]) pu.1 pu.2.1 (fun q hq => by simp only [List.mem_cons, List.not_mem_nil, or_false] at hq; rcases hq with rfl | rfl | rfl | rfl <;> (first | (left; simp; done) | (right; simp only [List.mem_cons, List.not_mem_nil, or_false, not_or]; omega) | (rcases ov with ⟨e1, e2⟩ | ov <;> first | (left; simp [e1, e2]; done) | (right; simp only [List.mem_cons, List.not_mem_nil, or_false, not_or]; omega))))
        refine hd_vret pkX1_divide rfl ?_
        have ei : i = n := by omega
        subst ei
        have uvl := pu.2.2.val pu.1 dg (W := W) (by omega) W9 (by omega)
        have lz : lim1 (ga hI (o + 1)) i i = 0 := by
          show (if i < i then _ else 0) = 0
          rw [if_neg (by omega)]
        have rn8 : nv1 (ga hI (o + 1)) i.toNat = P * Rv := by rw [eoI]; exact rn
        rw [lz, Int.zero_emod, Int.zero_mul, Int.add_zero, lim1_v (by omega) (by omega), rn8] at eqd
        have nz := rest_eq eqd (Int.emod_nonneg _ (by omega)) (Int.emod_lt_of_pos _ (by omega))
        rw [nz] at uvl
        have eqq : ∀ c : Nat, ¬ c = o → ¬ c = o + 1 → ga hc4 c = ga hI c := fun c w w2 => (onlyF pu.1 (by rw [List.mem_singleton]; exact w)).trans (onlyF hO5 (by rw [List.mem_singleton]; exact w2))
        have q1 := eqq q (by omega) (by omega)
        have q2 := eqq (q + 1) (by omega) (by omega)
        have oo : Only [o, o + 1, q] h hc4 := ((o10.mono (mem1 (by simp))).trans (pt.1.mono (mem1 (by simp)))).trans ((hO5.mono (mem1 (by simp))).trans (pu.1.mono (mem1 (by simp))))
        have esI : ga hK o 2 = ga h o 2 := by
          rw [hO5.ga (by simp only [List.mem_cons, List.not_mem_nil, or_false, not_or]; omega), pt.1.ga (by simp only [List.mem_cons, List.not_mem_nil, or_false, not_or]; omega), o10.ga (by simp only [List.mem_cons, List.not_mem_nil, or_false, not_or]; omega)]
        refine fin _ ghc4 oo uvl.2.1 ?_ ?_ ?_ ?_ ?_ pu.2.2.1 uvl.1 uvl.2.2.1 ?_
        · rw [q2]
          exact (onlyF pt.1 (by simp only [List.mem_cons, List.not_mem_nil, or_false, not_or]; omega)).trans eqH
        · rw [q1]
          exact pt.2.2.1
        · rw [q1, q2]
          exact tq.1
        · rw [q1, q2]
          exact tq.2.2.1
        · rw [q1, pt.2.2.2.2.2, s10]
        · rw [pu.2.2.2.2.2, esI]
      · skip
        have cut109 : ∀ (nx : Int), (nx = lim1 (ga hI (o + 1)) n (i + 1)) → (0 ≤ nx ∧ nx ≤ 1073741823) → MW KX1_divide Q 0 0 (pcA pgX1_divide 109) [(0, (2, ((o : Nat) : Int))), (1, (2, ((v : Nat) : Int))), (2, (2, ((q : Nat) : Int))), (3, (2, ((s : Nat) : Int))), (4, (0, n)), (5, (0, m)), (6, (0, wy)), (7, (0, sh)), (8, (0, i))] [(1, nx)] hK := by
          intro nx nxv nxb
          refine hd_lstore pkX1_divide rfl rfl ?_
          change MW _ _ _ _ _ [(9, (1, nx)), (0, (2, ((o : Nat) : Int))), (1, (2, ((v : Nat) : Int))), (2, (2, ((q : Nat) : Int))), (3, (2, ((s : Nat) : Int))), (4, (0, n)), (5, (0, m)), (6, (0, wy)), (7, (0, sh)), (8, (0, i))] _ _
          have md : 0 ≤ nx % P ∧ nx % P < P := ⟨Int.emod_nonneg _ (by omega), Int.emod_lt_of_pos _ (by omega)⟩
          refine hd_aload pkX1_divide rfl rfl (Int.natCast_nonneg _) ?_
          refine hd_getR (n := o + 1) pkX1_divide rfl (g92.ob 0 rfl).1 (g92.ob 0 rfl).2.1 (g92.rf 0 rfl) ?_
          refine hd_iload pkX1_divide rfl rfl ?_
          refine hd_aload pkX1_divide rfl rfl (Int.natCast_nonneg _) ?_
          refine hd_getR (n := o + 1) pkX1_divide rfl (g92.ob 0 rfl).1 (g92.ob 0 rfl).2.1 (g92.rf 0 rfl) ?_
          refine hd_iload pkX1_divide rfl rfl ?_
          refine hd_iald (n := W) pkX1_divide rfl (g92.ar 0 rfl) (by omega) (by omega) (fun v5 ev5 rv5 => ?_)
          obtain ⟨x9, qv5⟩ : ∃ x : Int, x = v5 := ⟨_, rfl⟩
          have xv : x9 = lim1 (ga hI (o + 1)) n i := by
            rw [qv5, ev5, un i (Int.le_refl _)]
            show _ = if i < n then _ else 0
            rw [if_pos (by omega)]
          have xb : 0 ≤ x9 ∧ x9 ≤ 1073741823 := by rw [qv5, ev5]; exact dg i (by omega) (by omega)
          subst qv5
          have xd : 0 ≤ x9 / P ∧ x9 / P < R9 := ⟨Int.ediv_nonneg xb.1 (by omega), Int.ediv_lt_of_lt_mul (by omega) (by rw [Int.mul_comm, PR9]; omega)⟩
          have mR : 0 ≤ nx % P * R9 ∧ nx % P * R9 ≤ 1073741824 - R9 := by
            refine ⟨Int.mul_nonneg md.1 (by omega), ?_⟩
            have a := Int.mul_le_mul_of_nonneg_right (show nx % P ≤ P - 1 by omega) (show 0 ≤ R9 by omega)
            rw [Int.sub_mul, Int.one_mul, PR9] at a
            exact a
          refine hd_iload pkX1_divide rfl rfl ?_
          refine hd_ishr (v := (x9 / P)) pkX1_divide rfl (by rw [eP]; exact h_ishrv (by omega) (by omega)) ?_
          refine hd_i2l pkX1_divide rfl ?_
          refine hd_lload pkX1_divide rfl rfl ?_
          refine hd_ipush (z := 30) pkX1_divide rfl ?_
          refine hd_iload pkX1_divide rfl rfl ?_
          refine hd_isub pkX1_divide rfl (by omega) ?_
          refine hd_lshl (v := (nx * R9)) pkX1_divide rfl (by rw [eR9]; exact h_lshlv (by omega) nxb.1 (by rw [← eR9]; have := Int.mul_le_mul nxb.2 R9b.2 (by omega) (by decide); omega)) ?_
          refine hd_lpush (z := 1073741823) pkX1_divide rfl ?_
          refine hd_land (v := ((nx % P) * R9)) pkX1_divide rfl (by rw [h_and30, mod9 nx]) ?_
          refine hd_lor (v := (x9 / P + nx % P * R9)) pkX1_divide rfl (by exact (h_lor (x := x9 / P) (y := nx % P * R9) (z := nx % P) (k := 30 - sh.toNat) ⟨xd.1, by rw [← eR8]; exact xd.2⟩ md.1 (by rw [← eR8, Int.mul_comm]) (by omega)).1) ?_
          refine hd_l2i pkX1_divide rfl (by omega) ?_
          refine hd_iast (n := W) pkX1_divide rfl (g92.ar 0 rfl) (by omega) (by omega) (by omega) (fun hh6 ehh6 => ?_)
          have ghh6 : G1 [(o, W), (v, V), (q, Y), (s, Z)] hh6 := by rw [ehh6]; exact g92.set (by omega) (fun qq hq w => absurd w (nx_o qq hq))
          have o12 : Only [o + 1] hI hh6 := by rw [ehh6]; exact hO5.set List.mem_cons_self
          have f12 : ∀ x : Int, 0 ≤ x → ga hh6 (o + 1) x = if x = i then x9 / P + nx % P * R9 else ga hK (o + 1) x := fun x a => by rw [ehh6]; exact ga_sa _ _ _ (by omega) a
          refine hd_iinc (z := 1) pkX1_divide rfl rfl (by omega) rfl ?_
          change MW _ _ _ _ _ [(8, (0, (i + 1))), (9, (1, nx)), (0, (2, ((o : Nat) : Int))), (1, (2, ((v : Nat) : Int))), (2, (2, ((q : Nat) : Int))), (3, (2, ((s : Nat) : Int))), (4, (0, n)), (5, (0, m)), (6, (0, wy)), (7, (0, sh))] _ _
          refine hd_goto pkX1_divide rfl ?_
          refine m_sub [(0, (2, ((o : Nat) : Int))), (1, (2, ((v : Nat) : Int))), (2, (2, ((q : Nat) : Int))), (3, (2, ((s : Nat) : Int))), (4, (0, n)), (5, (0, m)), (6, (0, wy)), (7, (0, sh)), (8, (0, (i + 1)))] (List.forall_mem_cons.mpr ⟨rfl, List.forall_mem_cons.mpr ⟨rfl, List.forall_mem_cons.mpr ⟨rfl, List.forall_mem_cons.mpr ⟨rfl, List.forall_mem_cons.mpr ⟨rfl, List.forall_mem_cons.mpr ⟨rfl, List.forall_mem_cons.mpr ⟨rfl, List.forall_mem_cons.mpr ⟨rfl, List.forall_mem_cons.mpr ⟨rfl, fun _ h => absurd h List.not_mem_nil⟩⟩⟩⟩⟩⟩⟩⟩⟩) ?_
          refine ih92  ((i + 1)) hh6 ghh6 ?_ ?_ ?_ ?_ ?_ ?_
          · exact o12
          · omega
          · intro x a b
            rw [f12 x a]
            split
            · omega
            · exact dg x a b
          · intro x a
            rw [f12 x (by omega), if_neg (by omega)]
            exact un x (by omega)
          · have z := down1 (V := nv1 (ga hK (o + 1)) i.toNat) (b := x9 / P + nx % P * R9) (d := lim1 (ga hI (o + 1)) n i) (v := lim1 (ga hI (o + 1)) n (i + 1) % P) eqd (by
              rw [Int.mul_add, ← xv, ← nxv, Int.mul_left_comm, PR9]
              have := Int.emod_add_mul_ediv x9 P
              omega)
            rw [show (i + 1).toNat = i.toNat + 1 by omega]
            show P * (nv1 (ga hh6 (o + 1)) i.toNat + ga hh6 (o + 1) (i.toNat : Int) * 1073741824 ^ i.toNat) + _ = nv1 (lim1 (ga hI (o + 1)) n) i.toNat + lim1 (ga hI (o + 1)) n (i.toNat : Int) * 1073741824 ^ i.toNat + _
            rw [show (i.toNat : Int) = i by omega, f12 i (by omega), if_pos rfl, nv1_cg (f := ga hh6 (o + 1)) (g := ga hK (o + 1)) (fun x a b => by rw [f12 x a, if_neg (by omega)])]
            exact z
          · omega
        refine hd_iload pkX1_divide rfl rfl ?_
        refine hd_ipush (z := 1) pkX1_divide rfl ?_
        refine hd_iadd pkX1_divide rfl (by omega) ?_
        refine hd_iload pkX1_divide rfl rfl ?_
        refine hd_ic_ge pkX1_divide rfl (fun c7 => ?_) (fun c7 => ?_)
        · skip
          refine hd_lpush (z := 0) pkX1_divide rfl ?_
          refine cut109 (0) ?_ ?_
          · first | exact nx8 | (show _ = if i + 1 < n then _ else 0; rw [if_neg (by omega)])
          · first | exact nb8 | decide
        · skip
          refine hd_aload pkX1_divide rfl rfl (Int.natCast_nonneg _) ?_
          refine hd_getR (n := o + 1) pkX1_divide rfl (g92.ob 0 rfl).1 (g92.ob 0 rfl).2.1 (g92.rf 0 rfl) ?_
          refine hd_iload pkX1_divide rfl rfl ?_
          refine hd_ipush (z := 1) pkX1_divide rfl ?_
          refine hd_iadd pkX1_divide rfl (by omega) ?_
          refine hd_iald (n := W) pkX1_divide rfl (g92.ar 0 rfl) (by omega) (by omega) (fun v8 ev8 rv8 => ?_)
          have nx8 : v8 = lim1 (ga hI (o + 1)) n (i + 1) := by
            rw [ev8, un (i + 1) (by omega)]
            show _ = if i + 1 < n then _ else 0
            rw [if_pos (by omega)]
          have nb8 : 0 ≤ v8 ∧ v8 ≤ 1073741823 := by rw [ev8]; exact dg (i + 1) (by omega) (by omega)
          refine hd_i2l pkX1_divide rfl ?_
          refine hd_goto pkX1_divide rfl ?_
          refine cut109 (v8) ?_ ?_
          · first | exact nx8 | (show _ = if i + 1 < n then _ else 0; rw [if_neg (by omega)])
          · first | exact nb8 | decide
  refine m_sub [(0, (2, ((o : Nat) : Int))), (1, (2, ((v : Nat) : Int))), (2, (2, ((q : Nat) : Int))), (3, (2, ((s : Nat) : Int))), (4, (0, n)), (5, (0, m)), (6, (0, wy)), (7, (0, sh)), (8, (0, 0))] (List.forall_mem_cons.mpr ⟨rfl, List.forall_mem_cons.mpr ⟨rfl, List.forall_mem_cons.mpr ⟨rfl, List.forall_mem_cons.mpr ⟨rfl, List.forall_mem_cons.mpr ⟨rfl, List.forall_mem_cons.mpr ⟨rfl, List.forall_mem_cons.mpr ⟨rfl, List.forall_mem_cons.mpr ⟨rfl, List.forall_mem_cons.mpr ⟨rfl, fun _ h => absurd h List.not_mem_nil⟩⟩⟩⟩⟩⟩⟩⟩⟩) ?_
  refine lp92 ((n - (0)) + 1).toNat (0) hc2 ghc2 ?_ ?_ ?_ ?_ ?_ ?_
  · rw [← ehI]
    exact Only.refl _ _
  · omega
  · rw [← ehI, eoI]
    exact dgo
  · intro x _
    rw [← ehI]
  · show P * 0 + _ = 0 + _ * 1
    rw [Int.mul_zero, Int.mul_one]
  · omega
set_option maxRecDepth 20000 in
set_option maxHeartbeats 8000000 in
theorem h_X1_divide {h : MH} {o W v V q Y s Z : Nat} (o4 : 3 ≤ o) (W9 : W ≤ 1000) (v4 : 3 ≤ v) (V9 : V ≤ 1000) (q4 : 3 ≤ q) (Y9 : Y ≤ 1000) (s4 : 3 ≤ s) (Z9 : Z ≤ 1000) (ov : (o = v ∧ W = V) ∨ o + 1 < v ∨ v + 1 < o) (oq : o + 1 < q ∨ q + 1 < o) (os : o + 1 < s ∨ s + 1 < o) (vq : v + 1 < q ∨ q + 1 < v) (vs : v + 1 < s ∨ s + 1 < v) (qs : q + 1 < s ∨ s + 1 < q) (d0 : Dg1 (ga h (o + 1)) 1099511627776) (dv : Dg1 (ga h (v + 1)) 1099511627776) (dq : Dg1 (ga h (q + 1)) 1099511627776) (ds : Dg1 (ga h (s + 1)) 1099511627776) (lb : 0 ≤ ga h o 1 ∧ ga h o 1 ≤ (W : Int)) (lvb : 0 ≤ ga h v 1 ∧ ga h v 1 ≤ (V : Int)) (tpv : 1 ≤ ga h v 1 → 1 ≤ ga h (v + 1) (ga h v 1 - 1)) (sob : -1 ≤ ga h o 2 ∧ ga h o 2 ≤ 1) (svb : -1 ≤ ga h v 2 ∧ ga h v 2 ≤ 1) (g : G1 [(o, W), (v, V), (q, Y), (s, Z)] h) : MCal KX1_divide yX1_divide 0 0 [(2, ((o : Nat) : Int)), (2, ((v : Nat) : Int)), (2, ((q : Nat) : Int)), (2, ((s : Nat) : Int))] h (mRV fun h' => Only [o, o + 1, q, q + 1, s + 1] h h' ∧ G1 [(o, W), (v, V), (q, Y), (s, Z)] h' ∧ Dg1 (ga h' (o + 1)) 1099511627776 ∧ Dg1 (ga h' (q + 1)) 1099511627776 ∧ Dg1 (ga h' (s + 1)) 1099511627776 ∧ (((ga h v 1 = 0 ∨ ga h o 1 < ga h v 1 ∨ (W : Int) ≤ ga h o 1 ∨ (Z : Int) < ga h v 1 ∨ (Y : Int) ≤ ga h o 1 - ga h v 1) ∧ ga h' q 1 = 0 ∧ ga h' q 2 = 0 ∧ ga h' o = ga h o ∧ ga h' (o + 1) = ga h (o + 1)) ∨ (¬ (ga h v 1 = 0 ∨ ga h o 1 < ga h v 1 ∨ (W : Int) ≤ ga h o 1 ∨ (Z : Int) < ga h v 1 ∨ (Y : Int) ≤ ga h o 1 - ga h v 1) ∧ (0 ≤ ga h' q 1 ∧ ga h' q 1 ≤ ga h o 1 - ga h v 1 + 1) ∧ nv1 (ga h' (q + 1)) (ga h' q 1).toNat = nv1 (ga h (o + 1)) (ga h o 1).toNat / nv1 (ga h (v + 1)) (ga h v 1).toNat ∧ (1 ≤ ga h' q 1 → 1 ≤ ga h' (q + 1) (ga h' q 1 - 1)) ∧ ga h' q 2 = (if ga h' q 1 = 0 then 0 else ga h o 2 * ga h v 2) ∧ (0 ≤ ga h' o 1 ∧ ga h' o 1 ≤ ga h v 1) ∧ nv1 (ga h' (o + 1)) (ga h' o 1).toNat = nv1 (ga h (o + 1)) (ga h o 1).toNat % nv1 (ga h (v + 1)) (ga h v 1).toNat ∧ (1 ≤ ga h' o 1 → 1 ≤ ga h' (o + 1) (ga h' o 1 - 1)) ∧ ga h' o 2 = (if ga h' o 1 = 0 then 0 else ga h o 2)))) := by
  refine MCal.ofMW (Or.inl rfl) ⟨cp_X1, rfl⟩ (Nat.le_of_ble_eq_true rfl) ?_
  generalize eQ : (mRV fun h' => Only [o, o + 1, q, q + 1, s + 1] h h' ∧ G1 [(o, W), (v, V), (q, Y), (s, Z)] h' ∧ Dg1 (ga h' (o + 1)) 1099511627776 ∧ Dg1 (ga h' (q + 1)) 1099511627776 ∧ Dg1 (ga h' (s + 1)) 1099511627776 ∧ (((ga h v 1 = 0 ∨ ga h o 1 < ga h v 1 ∨ (W : Int) ≤ ga h o 1 ∨ (Z : Int) < ga h v 1 ∨ (Y : Int) ≤ ga h o 1 - ga h v 1) ∧ ga h' q 1 = 0 ∧ ga h' q 2 = 0 ∧ ga h' o = ga h o ∧ ga h' (o + 1) = ga h (o + 1)) ∨ (¬ (ga h v 1 = 0 ∨ ga h o 1 < ga h v 1 ∨ (W : Int) ≤ ga h o 1 ∨ (Z : Int) < ga h v 1 ∨ (Y : Int) ≤ ga h o 1 - ga h v 1) ∧ (0 ≤ ga h' q 1 ∧ ga h' q 1 ≤ ga h o 1 - ga h v 1 + 1) ∧ nv1 (ga h' (q + 1)) (ga h' q 1).toNat = nv1 (ga h (o + 1)) (ga h o 1).toNat / nv1 (ga h (v + 1)) (ga h v 1).toNat ∧ (1 ≤ ga h' q 1 → 1 ≤ ga h' (q + 1) (ga h' q 1 - 1)) ∧ ga h' q 2 = (if ga h' q 1 = 0 then 0 else ga h o 2 * ga h v 2) ∧ (0 ≤ ga h' o 1 ∧ ga h' o 1 ≤ ga h v 1) ∧ nv1 (ga h' (o + 1)) (ga h' o 1).toNat = nv1 (ga h (o + 1)) (ga h o 1).toNat % nv1 (ga h (v + 1)) (ga h v 1).toNat ∧ (1 ≤ ga h' o 1 → 1 ≤ ga h' (o + 1) (ga h' o 1 - 1)) ∧ ga h' o 2 = (if ga h' o 1 = 0 then 0 else ga h o 2))) : MO → MH → Prop) = Q
  change MW KX1_divide Q 0 0 (pcA pgX1_divide 0) [(0, (2, ((o : Nat) : Int))), (1, (2, ((v : Nat) : Int))), (2, (2, ((q : Nat) : Int))), (3, (2, ((s : Nat) : Int)))] [] h
  have nx_o : ∀ qq ∈ ([(o, W), (v, V), (q, Y), (s, Z)] : List (Nat × Nat)), ¬ o + 1 = qq.1 := fun qq hq => by
    simp only [List.mem_cons, List.not_mem_nil, or_false] at hq
    rcases hq with rfl | rfl | rfl | rfl <;> (dsimp only; omega)
  have nx_q : ∀ qq ∈ ([(o, W), (v, V), (q, Y), (s, Z)] : List (Nat × Nat)), ¬ q + 1 = qq.1 := fun qq hq => by
    simp only [List.mem_cons, List.not_mem_nil, or_false] at hq
    rcases hq with rfl | rfl | rfl | rfl <;> (dsimp only; omega)
  obtain ⟨n, ln⟩ : ∃ n : Int, ga h v 1 = n := ⟨_, rfl⟩
  obtain ⟨m, lm⟩ : ∃ n : Int, ga h o 1 = n := ⟨_, rfl⟩
  obtain ⟨so, eso⟩ : ∃ n : Int, ga h o 2 = n := ⟨_, rfl⟩
  obtain ⟨sv, esv⟩ : ∃ n : Int, ga h v 2 = n := ⟨_, rfl⟩
  rw [ln] at lvb tpv
  rw [lm] at lb
  rw [eso] at sob
  rw [esv] at svb
  refine hd_aload pkX1_divide rfl rfl (Int.natCast_nonneg _) ?_
  refine hd_getI pkX1_divide rfl (g.ob 1 rfl).1 (g.ob 1 rfl).2.1 (fun v1 ev1 rv1 => ?_)
  replace ev1 : v1 = ga h v 1 := ev1
  have qv1 : n = v1 := by rw [ev1]; exact ln.symm
  subst qv1
  refine hd_istore pkX1_divide rfl rfl ?_
  change MW _ _ _ _ _ [(4, (0, n)), (0, (2, ((o : Nat) : Int))), (1, (2, ((v : Nat) : Int))), (2, (2, ((q : Nat) : Int))), (3, (2, ((s : Nat) : Int)))] _ _
  refine hd_aload pkX1_divide rfl rfl (Int.natCast_nonneg _) ?_
  refine hd_getI pkX1_divide rfl (g.ob 0 rfl).1 (g.ob 0 rfl).2.1 (fun v2 ev2 rv2 => ?_)
  replace ev2 : v2 = ga h o 1 := ev2
  have qv2 : m = v2 := by rw [ev2]; exact lm.symm
  subst qv2
  refine hd_istore pkX1_divide rfl rfl ?_
  change MW _ _ _ _ _ [(5, (0, m)), (4, (0, n)), (0, (2, ((o : Nat) : Int))), (1, (2, ((v : Nat) : Int))), (2, (2, ((q : Nat) : Int))), (3, (2, ((s : Nat) : Int)))] _ _
  refine hd_aload pkX1_divide rfl rfl (Int.natCast_nonneg _) ?_
  refine hd_getI pkX1_divide rfl (g.ob 0 rfl).1 (g.ob 0 rfl).2.1 (fun v3 ev3 rv3 => ?_)
  replace ev3 : v3 = ga h o 2 := ev3
  have qv3 : so = v3 := by rw [ev3]; exact eso.symm
  subst qv3
  refine hd_aload pkX1_divide rfl rfl (Int.natCast_nonneg _) ?_
  refine hd_getI pkX1_divide rfl (g.ob 1 rfl).1 (g.ob 1 rfl).2.1 (fun v4 ev4 rv4 => ?_)
  replace ev4 : v4 = ga h v 2 := ev4
  have qv4 : sv = v4 := by rw [ev4]; exact esv.symm
  subst qv4
  refine hd_imul pkX1_divide rfl (by rcases (show so = -1 ∨ so = 0 ∨ so = 1 by omega) with w | w | w <;> rcases (show sv = -1 ∨ sv = 0 ∨ sv = 1 by omega) with x | x | x <;> rw [w, x] <;> decide) ?_
  generalize ewy : (so * sv) = wy
  refine hd_istore pkX1_divide rfl rfl ?_
  change MW _ _ _ _ _ [(6, (0, wy)), (5, (0, m)), (4, (0, n)), (0, (2, ((o : Nat) : Int))), (1, (2, ((v : Nat) : Int))), (2, (2, ((q : Nat) : Int))), (3, (2, ((s : Nat) : Int)))] _ _
  refine hd_aload pkX1_divide rfl rfl (Int.natCast_nonneg _) ?_
  refine hd_lpush (z := 0) pkX1_divide rfl ?_
  refine hd_callV pkX1_divide rfl (q := (KX1_set, yX1_set, 1, 1, 0)) rfl rfl rfl (As := [(1, 0)]) (rest := []) (c := q) rfl rfl (Nat.le_of_ble_eq_true rfl) (g.ob 2 rfl).1 (g.ob 2 rfl).2.1 (h_X1_set0 (o := q) (W := Y) q4 Y9 (g.sub (fun q hq => by simp only [List.mem_cons, List.not_mem_nil, or_false] at hq; (first | (rcases hq with rfl | rfl | rfl | rfl) | (rcases hq with rfl | rfl | rfl) | (rcases hq with rfl | rfl) | (rcases hq with rfl)) <;> simp))) (hd_bV (fun hc5 p0 => ?_))
  have ghc5 : G1 [(o, W), (v, V), (q, Y), (s, Z)] hc5 := g.call p0.1 p0.2.1 (fun q hq => by simp only [List.mem_cons, List.not_mem_nil, or_false] at hq; rcases hq with rfl | rfl | rfl | rfl <;> (first | (left; simp; done) | (right; simp only [List.mem_cons, List.not_mem_nil, or_false, not_or]; omega) | (rcases ov with ⟨e1, e2⟩ | ov <;> first | (left; simp [e1, e2]; done) | (right; simp only [List.mem_cons, List.not_mem_nil, or_false, not_or]; omega))))
  obtain ⟨hA, ehA⟩ : ∃ x : MH, x = hc5 := ⟨_, rfl⟩
  have pA := p0
  rw [← ehA] at pA
  have oA := pA.1
  have uA : ∀ c : Nat, ¬ c = q → ga hA c = ga h c := fun c w => onlyF oA (by rw [List.mem_singleton]; exact w)
  refine hd_iload pkX1_divide rfl rfl ?_
  refine hd_if_eq pkX1_divide rfl (fun c6 => ?_) (fun c6 => ?_)
  · skip
    refine hd_vret pkX1_divide rfl ?_
    subst eQ
    refine ⟨rfl, p0.1.mono (by intro c hc; simp only [List.mem_cons, List.not_mem_nil, or_false] at hc ⊢; omega), ghc5, ?_, ?_, ?_, Or.inl ⟨?_, p0.2.2.1, p0.2.2.2, ?_, ?_⟩⟩
    · rw [← ehA, uA (o + 1) (by omega)]
      exact d0
    · rw [← ehA, uA (q + 1) (by omega)]
      exact dq
    · rw [← ehA, uA (s + 1) (by omega)]
      exact ds
    · rw [ln, lm]
      omega
    · rw [← ehA]
      exact uA o (by omega)
    · rw [← ehA]
      exact uA (o + 1) (by omega)
  · skip
    refine hd_iload pkX1_divide rfl rfl ?_
    refine hd_iload pkX1_divide rfl rfl ?_
    refine hd_ic_lt pkX1_divide rfl (fun c7 => ?_) (fun c7 => ?_)
    · skip
      refine hd_vret pkX1_divide rfl ?_
      subst eQ
      refine ⟨rfl, p0.1.mono (by intro c hc; simp only [List.mem_cons, List.not_mem_nil, or_false] at hc ⊢; omega), ghc5, ?_, ?_, ?_, Or.inl ⟨?_, p0.2.2.1, p0.2.2.2, ?_, ?_⟩⟩
      · rw [← ehA, uA (o + 1) (by omega)]
        exact d0
      · rw [← ehA, uA (q + 1) (by omega)]
        exact dq
      · rw [← ehA, uA (s + 1) (by omega)]
        exact ds
      · rw [ln, lm]
        omega
      · rw [← ehA]
        exact uA o (by omega)
      · rw [← ehA]
        exact uA (o + 1) (by omega)
    · skip
      refine hd_iload pkX1_divide rfl rfl ?_
      refine hd_aload pkX1_divide rfl rfl (Int.natCast_nonneg _) ?_
      refine hd_getR (n := o + 1) pkX1_divide rfl (ghc5.ob 0 rfl).1 (ghc5.ob 0 rfl).2.1 (ghc5.rf 0 rfl) ?_
      refine hd_alen (n := W) (k := 0) pkX1_divide rfl (ghc5.ar 0 rfl) (by decide) (by omega) ?_
      refine hd_ic_ge pkX1_divide rfl (fun c8 => ?_) (fun c8 => ?_)
      · skip
        refine hd_vret pkX1_divide rfl ?_
        subst eQ
        refine ⟨rfl, p0.1.mono (by intro c hc; simp only [List.mem_cons, List.not_mem_nil, or_false] at hc ⊢; omega), ghc5, ?_, ?_, ?_, Or.inl ⟨?_, p0.2.2.1, p0.2.2.2, ?_, ?_⟩⟩
        · rw [← ehA, uA (o + 1) (by omega)]
          exact d0
        · rw [← ehA, uA (q + 1) (by omega)]
          exact dq
        · rw [← ehA, uA (s + 1) (by omega)]
          exact ds
        · rw [ln, lm]
          omega
        · rw [← ehA]
          exact uA o (by omega)
        · rw [← ehA]
          exact uA (o + 1) (by omega)
      · skip
        refine hd_iload pkX1_divide rfl rfl ?_
        refine hd_aload pkX1_divide rfl rfl (Int.natCast_nonneg _) ?_
        refine hd_getR (n := s + 1) pkX1_divide rfl (ghc5.ob 3 rfl).1 (ghc5.ob 3 rfl).2.1 (ghc5.rf 3 rfl) ?_
        refine hd_alen (n := Z) (k := 0) pkX1_divide rfl (ghc5.ar 3 rfl) (by decide) (by omega) ?_
        refine hd_ic_gt pkX1_divide rfl (fun c9 => ?_) (fun c9 => ?_)
        · skip
          refine hd_vret pkX1_divide rfl ?_
          subst eQ
          refine ⟨rfl, p0.1.mono (by intro c hc; simp only [List.mem_cons, List.not_mem_nil, or_false] at hc ⊢; omega), ghc5, ?_, ?_, ?_, Or.inl ⟨?_, p0.2.2.1, p0.2.2.2, ?_, ?_⟩⟩
          · rw [← ehA, uA (o + 1) (by omega)]
            exact d0
          · rw [← ehA, uA (q + 1) (by omega)]
            exact dq
          · rw [← ehA, uA (s + 1) (by omega)]
            exact ds
          · rw [ln, lm]
            omega
          · rw [← ehA]
            exact uA o (by omega)
          · rw [← ehA]
            exact uA (o + 1) (by omega)
        · skip
          refine hd_iload pkX1_divide rfl rfl ?_
          refine hd_iload pkX1_divide rfl rfl ?_
          refine hd_isub pkX1_divide rfl (by omega) ?_
          refine hd_aload pkX1_divide rfl rfl (Int.natCast_nonneg _) ?_
          refine hd_getR (n := q + 1) pkX1_divide rfl (ghc5.ob 2 rfl).1 (ghc5.ob 2 rfl).2.1 (ghc5.rf 2 rfl) ?_
          refine hd_alen (n := Y) (k := 0) pkX1_divide rfl (ghc5.ar 2 rfl) (by decide) (by omega) ?_
          refine hd_ic_lt pkX1_divide rfl (fun c10 => ?_) (fun c10 => ?_)
          · skip
            refine hd_aload pkX1_divide rfl rfl (Int.natCast_nonneg _) ?_
            refine hd_getR (n := v + 1) pkX1_divide rfl (ghc5.ob 1 rfl).1 (ghc5.ob 1 rfl).2.1 (ghc5.rf 1 rfl) ?_
            refine hd_iload pkX1_divide rfl rfl ?_
            refine hd_ipush (z := 1) pkX1_divide rfl ?_
            refine hd_isub pkX1_divide rfl (by omega) ?_
            refine hd_iald (n := V) pkX1_divide rfl (ghc5.ar 1 rfl) (by omega) (by omega) (fun v11 ev11 rv11 => ?_)
            obtain ⟨tv, qv11⟩ : ∃ x : Int, x = v11 := ⟨_, rfl⟩
            have etv : tv = ga h (v + 1) (n - 1) := by rw [qv11, ev11, ← ehA]; exact congrFun (uA (v + 1) (by omega)) _
            have tvb : 1 ≤ tv ∧ tv ≤ 1073741823 := by rw [etv]; exact ⟨tpv (by omega), (dv (n - 1) (by omega) (by omega)).2⟩
            subst qv11
            refine hd_nlz (by omega) (Nat.le_of_ble_eq_true rfl) (fun z az bz cz dz => ?_)
            refine hd_ipush (z := 2) pkX1_divide rfl ?_
            refine hd_isub pkX1_divide rfl (by omega) ?_
            generalize esh : (z - 2) = sh
            rw [esh] at cz dz
            have shb : 0 ≤ sh ∧ sh ≤ 29 := by omega
            obtain ⟨P, eP⟩ : ∃ P : Int, P = 2 ^ sh.toNat := ⟨_, rfl⟩
            rw [← eP] at cz dz
            refine hd_istore pkX1_divide rfl rfl ?_
            change MW _ _ _ _ _ [(7, (0, sh)), (6, (0, wy)), (5, (0, m)), (4, (0, n)), (0, (2, ((o : Nat) : Int))), (1, (2, ((v : Nat) : Int))), (2, (2, ((q : Nat) : Int))), (3, (2, ((s : Nat) : Int)))] _ _
            refine hd_aload pkX1_divide rfl rfl (Int.natCast_nonneg _) ?_
            refine hd_aload pkX1_divide rfl rfl (Int.natCast_nonneg _) ?_
            refine hd_iload pkX1_divide rfl rfl ?_
            refine hd_iload pkX1_divide rfl rfl ?_
            refine hd_callV pkX1_divide rfl (q := (KX1_shifted, yX1_shifted, 1, 3, 0)) rfl rfl rfl (As := [(2, ((v : Nat) : Int)), (0, n), (0, sh)]) (rest := []) (c := s) rfl rfl (Nat.le_of_ble_eq_true rfl) (ghc5.ob 3 rfl).1 (ghc5.ob 3 rfl).2.1 (h_X1_shifted (o := s) (W := Z) (v := v) (V := V) (n := n) (s := sh) (P := P) s4 Z9 v4 V9 (by omega) (by omega) shb eP (by rw [← ehA, uA (s + 1) (by omega)]; exact ds) (by rw [← ehA, uA (v + 1) (by omega)]; exact dv) (ghc5.sub (fun q hq => by simp only [List.mem_cons, List.not_mem_nil, or_false] at hq; (first | (rcases hq with rfl | rfl | rfl | rfl) | (rcases hq with rfl | rfl | rfl) | (rcases hq with rfl | rfl) | (rcases hq with rfl)) <;> simp))) (hd_bI (fun c1 hc12 p1 => ?_))
            have ghc12 : G1 [(o, W), (v, V), (q, Y), (s, Z)] hc12 := ghc5.call p1.2.1 p1.2.2.1 (fun q hq => by simp only [List.mem_cons, List.not_mem_nil, or_false] at hq; rcases hq with rfl | rfl | rfl | rfl <;> (first | (left; simp; done) | (right; simp only [List.mem_cons, List.not_mem_nil, or_false, not_or]; omega) | (rcases ov with ⟨e1, e2⟩ | ov <;> first | (left; simp [e1, e2]; done) | (right; simp only [List.mem_cons, List.not_mem_nil, or_false, not_or]; omega))))
            obtain ⟨hB, ehB⟩ : ∃ x : MH, x = hc12 := ⟨_, rfl⟩
            rw [← ehA, ← ehB] at p1
            have oB := p1.2.1
            have uB : ∀ c : Nat, ¬ c = s + 1 → ga hB c = ga hA c := fun c w => onlyF oB (by rw [List.mem_singleton]; exact w)
            have dsB := p1.2.2.2.1
            have eS := p1.2.2.2.2.1
            rw [uA (v + 1) (by omega)] at eS
            have nk : n.toNat = (n.toNat - 1) + 1 := by omega
            have nrm := norm1 (f := ga h (v + 1)) (g := ga hB (s + 1)) (n := n.toNat - 1) (P := P) (c := c1) (k := sh.toNat) (by omega) eP (fun x a b => dv x a (by omega)) (fun x a b => dsB x a (by omega)) p1.1.1 (by rw [← nk]; exact eS) (by rw [show ((n.toNat - 1 : Nat) : Int) = n - 1 by omega, ← etv]; exact cz) (by rw [show ((n.toNat - 1 : Nat) : Int) = n - 1 by omega, ← etv]; exact dz)
            rw [show ((n.toNat - 1 : Nat) : Int) = n - 1 by omega] at nrm
            rw [nrm.1, Int.zero_mul, Int.add_zero] at eS
            refine hd_pop pkX1_divide rfl rfl ?_
            refine hd_aload pkX1_divide rfl rfl (Int.natCast_nonneg _) ?_
            refine hd_getR (n := o + 1) pkX1_divide rfl (ghc12.ob 0 rfl).1 (ghc12.ob 0 rfl).2.1 (ghc12.rf 0 rfl) ?_
            refine hd_iload pkX1_divide rfl rfl ?_
            refine hd_aload pkX1_divide rfl rfl (Int.natCast_nonneg _) ?_
            refine hd_aload pkX1_divide rfl rfl (Int.natCast_nonneg _) ?_
            refine hd_iload pkX1_divide rfl rfl ?_
            refine hd_iload pkX1_divide rfl rfl ?_
            refine hd_callV pkX1_divide rfl (q := (KX1_shifted, yX1_shifted, 1, 3, 0)) rfl rfl rfl (As := [(2, ((o : Nat) : Int)), (0, m), (0, sh)]) (rest := [(0, m), (2, ((o + 1 : Nat) : Int))]) (c := o) rfl rfl (Nat.le_of_ble_eq_true rfl) (ghc12.ob 0 rfl).1 (ghc12.ob 0 rfl).2.1 (h_X1_shifted (o := o) (W := W) (v := o) (V := W) (n := m) (s := sh) (P := P) o4 W9 o4 W9 (by omega) (by omega) shb eP (by rw [← ehB, uB (o + 1) (by omega), uA (o + 1) (by omega)]; exact d0) (by rw [← ehB, uB (o + 1) (by omega), uA (o + 1) (by omega)]; exact d0) (ghc12.sub (fun q hq => by simp only [List.mem_cons, List.not_mem_nil, or_false] at hq; (first | (rcases hq with rfl | rfl | rfl | rfl) | (rcases hq with rfl | rfl | rfl) | (rcases hq with rfl | rfl) | (rcases hq with rfl)) <;> simp))) (hd_bI (fun c2 hc13 p2 => ?_))
            have ghc13 : G1 [(o, W), (v, V), (q, Y), (s, Z)] hc13 := ghc12.call p2.2.1 p2.2.2.1 (fun q hq => by simp only [List.mem_cons, List.not_mem_nil, or_false] at hq; rcases hq with rfl | rfl | rfl | rfl <;> (first | (left; simp; done) | (right; simp only [List.mem_cons, List.not_mem_nil, or_false, not_or]; omega) | (rcases ov with ⟨e1, e2⟩ | ov <;> first | (left; simp [e1, e2]; done) | (right; simp only [List.mem_cons, List.not_mem_nil, or_false, not_or]; omega))))
            obtain ⟨hC, ehC⟩ : ∃ x : MH, x = hc13 := ⟨_, rfl⟩
            rw [← ehB, ← ehC] at p2
            have oC := p2.2.1
            have eU := p2.2.2.2.2.1
            rw [uB (o + 1) (by omega), uA (o + 1) (by omega)] at eU
            have Pb := p2_b (n := sh.toNat) (by omega)
            rw [← eP] at Pb
            refine hd_iast (n := W) pkX1_divide rfl (ghc13.ar 0 rfl) (by omega) (by omega) (by omega) (fun hh14 ehh14 => ?_)
            have ghh14 : G1 [(o, W), (v, V), (q, Y), (s, Z)] hh14 := by rw [ehh14]; exact ghc13.set (by omega) (fun qq hq w => absurd w (nx_o qq hq))
            obtain ⟨hD, ehD⟩ : ∃ x : MH, x = hh14 := ⟨_, rfl⟩
            have oD : Only [o + 1] hC hD := by rw [ehD, ehh14, ehC]; exact (Only.refl _ _).set List.mem_cons_self
            have fD : ∀ x : Int, 0 ≤ x → ga hD (o + 1) x = if x = m then c2 else ga hC (o + 1) x := fun x a => by rw [ehD, ehh14, ehC]; exact ga_sa _ _ _ (by omega) a
            have dD : Dg1 (ga hD (o + 1)) 1099511627776 := fun x a b => by
              have p9 : P ≤ 536870912 := by
                rw [eP]
                have := pmono (b := 2) (by decide) (show sh.toNat ≤ 29 by omega)
                have c : (2 : Int) ^ 29 = 536870912 := by decide
                omega
              rw [fD x a]
              split
              · omega
              · exact p2.2.2.2.1 x a b
            have uD : ∀ c : Nat, ¬ c = o + 1 → ga hD c = ga hB c := fun c w => (onlyF oD (by rw [List.mem_singleton]; exact w)).trans (onlyF oC (by rw [List.mem_singleton]; exact w))
            have eUD : nv1 (ga hD (o + 1)) (m.toNat + 1) = P * nv1 (ga h (o + 1)) m.toNat := by
              rw [nv1_2, show (m.toNat : Int) = m by omega, fD m (by omega), if_pos rfl, nv1_cg (f := ga hD (o + 1)) (g := ga hC (o + 1)) (fun x a b => by rw [fD x a, if_neg (by omega)])]
              exact eU
            obtain ⟨S9, eS9⟩ : ∃ x : Int, x = nv1 (ga hB (s + 1)) n.toNat := ⟨_, rfl⟩
            have eSP : S9 = P * nv1 (ga h (v + 1)) n.toNat := by rw [eS9]; exact eS
            have nS := nv1_nn1 (f := ga hB (s + 1)) (n := n.toNat - 1) (fun x a b => dsB x a (by omega))
            rw [← nk, show ((n.toNat - 1 : Nat) : Int) = n - 1 by omega, ← eS9] at nS
            have W0 : uv1 (ga hD (o + 1)) (m - n + 1) n.toNat < S9 := by
              rw [nk]
              have a := nv1_nn1 (f := fun x => ga hD (o + 1) (m - n + 1 + x)) (n := n.toNat - 1) (fun x a b => dD (m - n + 1 + x) (by omega) (by omega))
              have b : uv1 (ga hD (o + 1)) (m - n + 1) (n.toNat - 1 + 1) < (ga hD (o + 1) (m - n + 1 + ((n.toNat - 1 : Nat) : Int)) + 1) * 1073741824 ^ (n.toNat - 1) := a.1
              rw [show m - n + 1 + ((n.toNat - 1 : Nat) : Int) = m by omega, fD m (by omega), if_pos rfl] at b
              have p9 : P ≤ 536870912 := by
                rw [eP]
                have := pmono (b := 2) (by decide) (show sh.toNat ≤ 29 by omega)
                have c : (2 : Int) ^ 29 = 536870912 := by decide
                omega
              have c := Int.mul_le_mul_of_nonneg_right (show c2 + 1 ≤ ga hB (s + 1) (n - 1) by omega) (Int.le_of_lt (p30_pos (n.toNat - 1)))
              omega
            have S0 : 0 < S9 := by have := Int.mul_le_mul_of_nonneg_right nrm.2 (Int.le_of_lt (p30_pos (n.toNat - 1))); have := p30_pos (n.toNat - 1); omega
            refine hd_iload pkX1_divide rfl rfl ?_
            refine hd_iload pkX1_divide rfl rfl ?_
            refine hd_isub pkX1_divide rfl (by omega) ?_
            refine hd_istore pkX1_divide rfl rfl ?_
            change MW _ _ _ _ _ [(8, (0, (m - n))), (7, (0, sh)), (6, (0, wy)), (5, (0, m)), (4, (0, n)), (0, (2, ((o : Nat) : Int))), (1, (2, ((v : Nat) : Int))), (2, (2, ((q : Nat) : Int))), (3, (2, ((s : Nat) : Int)))] _ _
            have lp67 : ∀ (N67 : Nat) (j : Int) (hE : MH), G1 [(o, W), (v, V), (q, Y), (s, Z)] hE → (Only [o + 1, q + 1] hD hE) → (-1 ≤ j ∧ j ≤ m - n) → (Dg1 (ga hE (o + 1)) 1099511627776) → (Dg1 (ga hE (q + 1)) 1099511627776) → (∀ x : Int, j + 1 + n ≤ x → x ≤ m → ga hE (o + 1) x = 0) → (uv1 (ga hE (o + 1)) (j + 1) n.toNat < S9) → (nv1 (ga hE (o + 1)) (m.toNat + 1) + 1073741824 ^ (j + 1).toNat * uv1 (ga hE (q + 1)) (j + 1) (m - n - j).toNat * S9 = P * nv1 (ga h (o + 1)) m.toNat) → (j : Int) + 1 < (N67 : Int) → MW KX1_divide Q 0 0 (pcA pgX1_divide 67) [(0, (2, ((o : Nat) : Int))), (1, (2, ((v : Nat) : Int))), (2, (2, ((q : Nat) : Int))), (3, (2, ((s : Nat) : Int))), (4, (0, n)), (5, (0, m)), (6, (0, wy)), (7, (0, sh)), (8, (0, j))] [] hE := by
              intro N67
              induction N67 with
              | zero => intro j hE g67 hO j0 dgo dgq zz ws eq hm67; exfalso; omega
              | succ N67 ih67 =>
                intro j hE g67 hO j0 dgo dgq zz ws eq hm67
                refine hd_iload pkX1_divide rfl rfl ?_
                refine hd_if_lt pkX1_divide rfl (fun c15 => ?_) (fun c15 => ?_)
                · skip
                  have ej : j = -1 := by omega
                  subst ej
                  have rm : nv1 (ga hE (o + 1)) (m.toNat + 1) = uv1 (ga hE (o + 1)) 0 n.toNat := by
                    rw [nv1_zero (n := n.toNat) (by omega) (fun x a b => zz x (by omega) (by omega))]
                    exact nv1_cg fun x a b => by rw [Int.zero_add]
                  rw [rm, show (m - n - -1).toNat = (m - n + 1).toNat by omega] at eq
                  have ws : uv1 (ga hE (o + 1)) 0 n.toNat < S9 := ws
                  have eq : uv1 (ga hE (o + 1)) 0 n.toNat + 1 * uv1 (ga hE (q + 1)) 0 (m - n + 1).toNat * S9 = P * nv1 (ga h (o + 1)) m.toNat := eq
                  rw [Int.one_mul] at eq
                  have r0 := (nv1_b (f := fun x => ga hE (o + 1) (0 + x)) (n := n.toNat) (fun x a b => dgo (0 + x) (by omega) (by omega))).1
                  have DE := div_end (P := P) (U := P * nv1 (ga h (o + 1)) m.toNat) (S := S9) (D := nv1 (ga h (o + 1)) m.toNat) (N := nv1 (ga h (v + 1)) n.toNat) (by omega) rfl eSP eq r0 ws
                  have qn : nv1 (ga hE (q + 1)) (m - n + 1).toNat = nv1 (ga h (o + 1)) m.toNat / nv1 (ga h (v + 1)) n.toNat := by
                    rw [← DE.1]
                    exact nv1_cg fun x a b => by rw [Int.zero_add]
                  have rn : nv1 (ga hE (o + 1)) n.toNat = P * (nv1 (ga h (o + 1)) m.toNat % nv1 (ga h (v + 1)) n.toNat) := by
                    rw [← DE.2]
                    exact nv1_cg fun x a b => by rw [Int.zero_add]
                  refine h_X1_divB (h := hE) (n := n) (m := m) (wy := wy) (sh := sh) (P := P) o4 W9 v4 V9 q4 Y9 s4 Z9 ov oq os vq vs qs (by omega) (by omega) shb eP dgo dgq qn rn (fun h' gg oo f1 f2 f3 f4 f5 f6 f7 f8 f9 f10 => ?_) g67
                  subst eQ
                  refine ⟨rfl, ?_, gg, f1, ?_, ?_, Or.inr ⟨?_, ?_, ?_, f5, ?_, ?_, ?_, f9, ?_⟩⟩
                  · exact (((oA.mono (mem1 (by simp))).trans (oB.mono (mem1 (by simp)))).trans ((oC.mono (mem1 (by simp))).trans (oD.mono (mem1 (by simp))))).trans ((hO.mono (by intro c hc; simp only [List.mem_cons, List.not_mem_nil, or_false] at hc ⊢; rcases hc with w | w <;> simp [w])).trans (oo.mono (by intro c hc; simp only [List.mem_cons, List.not_mem_nil, or_false] at hc ⊢; rcases hc with w | w | w <;> simp [w])))
                  · rw [f2]
                    exact dgq
                  · rw [onlyF oo (by simp only [List.mem_cons, List.not_mem_nil, or_false, not_or]; omega), onlyF hO (by simp only [List.mem_cons, List.not_mem_nil, or_false, not_or]; omega), uD (s + 1) (by omega)]
                    exact dsB
                  · rw [ln, lm]
                    omega
                  · rw [ln, lm]
                    exact f3
                  · rw [ln, lm]
                    exact f4
                  · rw [f6, ← ewy, eso, esv]
                  · rw [ln]
                    exact f7
                  · rw [ln, lm]
                    exact f8
                  · rw [f10, hO.ga (by simp only [List.mem_cons, List.not_mem_nil, or_false, not_or]; omega), oD.ga (by simp only [List.mem_cons, List.not_mem_nil, or_false, not_or]; omega), oC.ga (by simp only [List.mem_cons, List.not_mem_nil, or_false, not_or]; omega), oB.ga (by simp only [List.mem_cons, List.not_mem_nil, or_false, not_or]; omega), oA.ga (by simp only [List.mem_cons, List.not_mem_nil, or_false, not_or]; omega)]
                · skip
                  refine hd_aload pkX1_divide rfl rfl (Int.natCast_nonneg _) ?_
                  refine hd_getR (n := q + 1) pkX1_divide rfl (g67.ob 2 rfl).1 (g67.ob 2 rfl).2.1 (g67.rf 2 rfl) ?_
                  refine hd_iload pkX1_divide rfl rfl ?_
                  refine hd_aload pkX1_divide rfl rfl (Int.natCast_nonneg _) ?_
                  refine hd_aload pkX1_divide rfl rfl (Int.natCast_nonneg _) ?_
                  refine hd_iload pkX1_divide rfl rfl ?_
                  refine hd_iload pkX1_divide rfl rfl ?_
                  have hsE : ga hE (s + 1) = ga hB (s + 1) := (onlyF hO (by simp only [List.mem_cons, List.not_mem_nil, or_false, not_or]; omega)).trans (uD (s + 1) (by omega))
                  have sE : nv1 (ga hE (s + 1)) n.toNat = S9 := by rw [hsE, eS9]
                  have rsE : uv1 (ga hE (o + 1)) j (n.toNat + 1) < S9 * 1073741824 := by
                    rw [uv1_s]
                    have := dgo j (by omega) (by omega)
                    omega
                  refine hd_callV pkX1_divide rfl (q := (KX1_quotientLimb, yX1_quotientLimb, 1, 3, 0)) rfl rfl rfl (As := [(2, ((s : Nat) : Int)), (0, n), (0, j)]) (rest := [(0, j), (2, ((q + 1 : Nat) : Int))]) (c := o) rfl rfl (Nat.le_of_ble_eq_true rfl) (g67.ob 0 rfl).1 (g67.ob 0 rfl).2.1 (h_X1_quotientLimb (o := o) (W := W) (s := s) (V := Z) (n := n) (j := j) (fi := ga hB (s + 1) (n - 1)) o4 W9 s4 Z9 (by omega) (by omega) (by omega) dgo (by rw [hsE]; exact dsB) (by rw [hsE]) nrm.2 (by rw [sE]; exact rsE) (g67.sub (fun q hq => by simp only [List.mem_cons, List.not_mem_nil, or_false] at hq; (first | (rcases hq with rfl | rfl | rfl | rfl) | (rcases hq with rfl | rfl | rfl) | (rcases hq with rfl | rfl) | (rcases hq with rfl)) <;> simp))) (hd_bI (fun qv hc16 pq => ?_))
                  have ghc16 : G1 [(o, W), (v, V), (q, Y), (s, Z)] hc16 := g67.call pq.2.2.1 pq.2.2.2.1 (fun q hq => by simp only [List.mem_cons, List.not_mem_nil, or_false] at hq; rcases hq with rfl | rfl | rfl | rfl <;> (first | (left; simp; done) | (right; simp only [List.mem_cons, List.not_mem_nil, or_false, not_or]; omega) | (rcases ov with ⟨e1, e2⟩ | ov <;> first | (left; simp [e1, e2]; done) | (right; simp only [List.mem_cons, List.not_mem_nil, or_false, not_or]; omega))))
                  obtain ⟨hF, ehF⟩ : ∃ x : MH, x = hc16 := ⟨_, rfl⟩
                  rw [← ehF] at pq
                  have oF := pq.2.2.1
                  refine hd_iast (n := Y) pkX1_divide rfl (ghc16.ar 2 rfl) (by omega) (by omega) (by omega) (fun hh17 ehh17 => ?_)
                  have ghh17 : G1 [(o, W), (v, V), (q, Y), (s, Z)] hh17 := by rw [ehh17]; exact ghc16.set (by omega) (fun qq hq w => absurd w (nx_q qq hq))
                  have o9 : Only [o + 1, q + 1] hD hh17 := by rw [ehh17, ← ehF]; exact (hO.trans (oF.mono (by intro c hc; simp only [List.mem_cons, List.not_mem_nil, or_false] at hc ⊢; omega))).set (by simp)
                  have eo9 : ga hh17 (o + 1) = ga hF (o + 1) := by funext x; rw [ehh17, ← ehF]; exact ga_ne _ _ _ _ (by omega) x
                  have f9 : ∀ x : Int, 0 ≤ x → ga hh17 (q + 1) x = if x = j then qv else ga hE (q + 1) x := fun x a => by rw [ehh17, ← ehF, ga_sa _ _ _ (by omega) a, oF.ga (by simp only [List.mem_cons, List.not_mem_nil, or_false, not_or]; omega)]
                  refine hd_iinc (z := (-1)) pkX1_divide rfl rfl (by omega) rfl ?_
                  change MW _ _ _ _ _ [(8, (0, (j + (-1)))), (0, (2, ((o : Nat) : Int))), (1, (2, ((v : Nat) : Int))), (2, (2, ((q : Nat) : Int))), (3, (2, ((s : Nat) : Int))), (4, (0, n)), (5, (0, m)), (6, (0, wy)), (7, (0, sh))] _ _
                  refine hd_goto pkX1_divide rfl ?_
                  refine m_sub [(0, (2, ((o : Nat) : Int))), (1, (2, ((v : Nat) : Int))), (2, (2, ((q : Nat) : Int))), (3, (2, ((s : Nat) : Int))), (4, (0, n)), (5, (0, m)), (6, (0, wy)), (7, (0, sh)), (8, (0, (j + (-1))))] (List.forall_mem_cons.mpr ⟨rfl, List.forall_mem_cons.mpr ⟨rfl, List.forall_mem_cons.mpr ⟨rfl, List.forall_mem_cons.mpr ⟨rfl, List.forall_mem_cons.mpr ⟨rfl, List.forall_mem_cons.mpr ⟨rfl, List.forall_mem_cons.mpr ⟨rfl, List.forall_mem_cons.mpr ⟨rfl, List.forall_mem_cons.mpr ⟨rfl, fun _ h => absurd h List.not_mem_nil⟩⟩⟩⟩⟩⟩⟩⟩⟩) ?_
                  refine ih67  ((j + (-1))) hh17 ghh17 ?_ ?_ ?_ ?_ ?_ ?_ ?_ ?_
                  · exact o9
                  · omega
                  · rw [eo9]
                    exact pq.2.2.2.2.1
                  · intro x a b
                    rw [f9 x a]
                    split
                    · exact pq.2.1
                    · exact dgq x a b
                  · intro x a b
                    rw [eo9]
                    by_cases w : x = j + n
                    · rw [w]
                      exact pq.2.2.2.2.2.2.2
                    · rw [pq.2.2.2.2.2.1 x (by omega) (by omega)]
                      exact zz x (by omega) b
                  · rw [eo9, show j + -1 + 1 = j by omega, pq.2.2.2.2.2.2.1, sE]
                    exact Int.emod_lt_of_pos _ S0
                  · have nj : (j + 1).toNat = j.toNat + 1 := by omega
                    have a1 : nv1 (ga hE (o + 1)) (m.toNat + 1) = nv1 (ga hE (o + 1)) j.toNat + 1073741824 ^ j.toNat * uv1 (ga hE (o + 1)) j (n.toNat + 1) := by
                      rw [nv1_zero (n := j.toNat + (n.toNat + 1)) (by omega) (fun x a b => zz x (by omega) (by omega)), nv1_split, show ((j.toNat : Nat) : Int) = j by omega]
                    have a2 : nv1 (ga hh17 (o + 1)) (m.toNat + 1) = nv1 (ga hE (o + 1)) j.toNat + 1073741824 ^ j.toNat * (uv1 (ga hE (o + 1)) j (n.toNat + 1) % S9) := by
                      rw [eo9, nv1_zero (n := j.toNat + n.toNat) (by omega) (fun x a b => by
                        by_cases w : x = j + n
                        · rw [w]
                          exact pq.2.2.2.2.2.2.2
                        · rw [pq.2.2.2.2.2.1 x (by omega) (by omega)]
                          exact zz x (by omega) (by omega)), nv1_split, show ((j.toNat : Nat) : Int) = j by omega, pq.2.2.2.2.2.2.1, sE, nv1_cg (f := ga hF (o + 1)) (g := ga hE (o + 1)) (fun x a b => pq.2.2.2.2.2.1 x a (by omega))]
                    have a3 : uv1 (ga hh17 (q + 1)) j (m - n - (j + -1)).toNat = qv + 1073741824 * uv1 (ga hE (q + 1)) (j + 1) (m - n - j).toNat := by
                      rw [show (m - n - (j + -1)).toNat = (m - n - j).toNat + 1 by omega, uv1_s, f9 j (by omega), if_pos rfl, show uv1 (ga hh17 (q + 1)) (j + 1) (m - n - j).toNat = uv1 (ga hE (q + 1)) (j + 1) (m - n - j).toNat from nv1_cg fun x a b => by rw [f9 (j + 1 + x) (by omega), if_neg (by omega)]]
                    have dm := Int.emod_add_mul_ediv (uv1 (ga hE (o + 1)) j (n.toNat + 1)) S9
                    have qe : qv = uv1 (ga hE (o + 1)) j (n.toNat + 1) / S9 := by rw [pq.1, sE]
                    rw [← qe] at dm
                    rw [show j + -1 + 1 = j by omega, a2, a3, ← eq, a1, nj, p30_s]
                    generalize uv1 (ga hE (o + 1)) j (n.toNat + 1) % S9 = r9 at dm ⊢
                    rw [← dm]
                    generalize uv1 (ga hE (q + 1)) (j + 1) (m - n - j).toNat = u9
                    generalize nv1 (ga hE (o + 1)) j.toNat = n9
                    generalize (1073741824 : Int) ^ j.toNat = b9
                    exact div_ring
                  · omega
            refine m_sub [(0, (2, ((o : Nat) : Int))), (1, (2, ((v : Nat) : Int))), (2, (2, ((q : Nat) : Int))), (3, (2, ((s : Nat) : Int))), (4, (0, n)), (5, (0, m)), (6, (0, wy)), (7, (0, sh)), (8, (0, (m - n)))] (List.forall_mem_cons.mpr ⟨rfl, List.forall_mem_cons.mpr ⟨rfl, List.forall_mem_cons.mpr ⟨rfl, List.forall_mem_cons.mpr ⟨rfl, List.forall_mem_cons.mpr ⟨rfl, List.forall_mem_cons.mpr ⟨rfl, List.forall_mem_cons.mpr ⟨rfl, List.forall_mem_cons.mpr ⟨rfl, List.forall_mem_cons.mpr ⟨rfl, fun _ h => absurd h List.not_mem_nil⟩⟩⟩⟩⟩⟩⟩⟩⟩) ?_
            refine lp67 (((((m - n)) : Int) + 1) + 1).toNat ((m - n)) hh14 ghh14 ?_ ?_ ?_ ?_ ?_ ?_ ?_ ?_
            · rw [← ehD]
              exact Only.refl _ _
            · omega
            · rw [← ehD]
              exact dD
            · rw [← ehD, uD (q + 1) (by omega), uB (q + 1) (by omega), uA (q + 1) (by omega)]
              exact dq
            · intro x a b
              omega
            · rw [← ehD]
              exact W0
            · rw [← ehD, show (m - n - (m - n)).toNat = 0 by omega]
              show _ + _ * 0 * _ = _
              rw [Int.mul_zero, Int.zero_mul, Int.add_zero]
              exact eUD
            · omega
          · skip
            refine hd_vret pkX1_divide rfl ?_
            subst eQ
            refine ⟨rfl, p0.1.mono (by intro c hc; simp only [List.mem_cons, List.not_mem_nil, or_false] at hc ⊢; omega), ghc5, ?_, ?_, ?_, Or.inl ⟨?_, p0.2.2.1, p0.2.2.2, ?_, ?_⟩⟩
            · rw [← ehA, uA (o + 1) (by omega)]
              exact d0
            · rw [← ehA, uA (q + 1) (by omega)]
              exact dq
            · rw [← ehA, uA (s + 1) (by omega)]
              exact ds
            · rw [ln, lm]
              omega
            · rw [← ehA]
              exact uA o (by omega)
            · rw [← ehA]
              exact uA (o + 1) (by omega)
