/-! X1 by hand: copied limb by limb, divided by a small number -/
theorem nv1_upd {f g : Int → Int} {k n : Nat} (h : k < n) (e : ∀ j : Int, 0 ≤ j → j ≠ (k : Int) → g j = f j) : nv1 g n = nv1 f n + (g (k : Int) - f (k : Int)) * 1073741824 ^ k := by
  induction n with
  | zero => omega
  | succ n ih =>
    show nv1 g n + g (n : Int) * 1073741824 ^ n = nv1 f n + f (n : Int) * 1073741824 ^ n + _
    by_cases w : k = n
    · subst w
      rw [nv1_cg (f := g) (g := f) (n := k) (fun j a b => e j a (by omega)), Int.sub_mul]
      omega
    · rw [ih (by omega), e (n : Int) (by omega) (by omega)]
      omega
theorem small1 {b N M0 P q d r r' v V : Int} (e : r * 1073741824 + d = b * q + r') : b * (N - (M0 + v * P)) + r * (1073741824 * P) + (V + d * P) = b * (N + (q - v) * P - M0) + r' * P + V := by
  have w : (r * 1073741824 + d) * P = (b * q + r') * P := by rw [e]
  simp only [Int.add_mul, Int.mul_add, Int.sub_mul, Int.mul_sub, Int.mul_assoc] at w ⊢
  omega
theorem small2 {N M y r : Int} (y0 : 0 < y) (r0 : 0 ≤ r ∧ r < y) (e : N = y * M + r) : M = N / y ∧ r = N % y := by
  have a := Int.emod_add_mul_ediv N y
  have b := Int.emod_nonneg N (show y ≠ 0 by omega)
  have c := Int.emod_lt_of_pos N y0
  have d : N / y = M := by
    rw [e, Int.add_comm, Int.add_mul_ediv_left _ _ (by omega), Int.ediv_eq_zero_of_lt r0.1 r0.2, Int.zero_add]
  refine ⟨d.symm, ?_⟩
  rw [d] at a
  omega
set_option maxRecDepth 20000 in
set_option maxHeartbeats 8000000 in
theorem h_X1_copyR {h : MH} {o W a A : Nat} (o4 : 3 ≤ o) (W9 : W ≤ 1000) (a4 : 3 ≤ a) (A9 : A ≤ 1000) (oa : o + 1 < a ∨ a + 1 < o) (la : 0 ≤ ga h a 1 ∧ ga h a 1 ≤ (A : Int)) (da : Dg1 (ga h (a + 1)) 1099511627776) (lw : ga h a 1 ≤ (W : Int)) (d0 : Dg1 (ga h (o + 1)) 1099511627776) (g : G1 [(o, W), (a, A)] h) : MCal KX1_copy yX1_copy 0 0 [(2, ((o : Nat) : Int)), (2, ((a : Nat) : Int))] h (mRV fun h' => Only [o, o + 1] h h' ∧ G1 [(o, W), (a, A)] h' ∧ ga h' o 1 = ga h a 1 ∧ ga h' o 2 = ga h a 2 ∧ Dg1 (ga h' (o + 1)) 1099511627776 ∧ ∀ j : Int, 0 ≤ j → j < ga h a 1 → ga h' (o + 1) j = ga h (a + 1) j) := by
  refine MCal.ofMW (Or.inl rfl) ⟨cp_X1, rfl⟩ (Nat.le_of_ble_eq_true rfl) ?_
  generalize eQ : (mRV fun h' => Only [o, o + 1] h h' ∧ G1 [(o, W), (a, A)] h' ∧ ga h' o 1 = ga h a 1 ∧ ga h' o 2 = ga h a 2 ∧ Dg1 (ga h' (o + 1)) 1099511627776 ∧ ∀ j : Int, 0 ≤ j → j < ga h a 1 → ga h' (o + 1) j = ga h (a + 1) j : MO → MH → Prop) = Q
  change MW KX1_copy Q 0 0 (pcA pgX1_copy 0) [(0, (2, ((o : Nat) : Int))), (1, (2, ((a : Nat) : Int)))] [] h
  have nx_o : ∀ qq ∈ ([(o, W), (a, A)] : List (Nat × Nat)), ¬ o + 1 = qq.1 := fun qq hq => by
    simp only [List.mem_cons, List.not_mem_nil, or_false] at hq
    rcases hq with rfl | rfl <;> (dsimp only; omega)
  obtain ⟨n, ln⟩ : ∃ n : Int, ga h a 1 = n := ⟨_, rfl⟩
  have nA := la
  rw [ln] at nA lw
  refine hd_aload pkX1_copy rfl rfl (Int.natCast_nonneg _) ?_
  refine hd_aload pkX1_copy rfl rfl (Int.natCast_nonneg _) ?_
  refine hd_getI pkX1_copy rfl (g.ob 1 rfl).1 (g.ob 1 rfl).2.1 (fun v1 ev1 rv1 => ?_)
  replace ev1 : v1 = ga h a 1 := ev1
  have qv1 : n = v1 := by rw [ev1]; exact ln.symm
  subst qv1
  refine hd_aload pkX1_copy rfl rfl (Int.natCast_nonneg _) ?_
  refine hd_getR (n := o + 1) pkX1_copy rfl (g.ob 0 rfl).1 (g.ob 0 rfl).2.1 (g.rf 0 rfl) ?_
  refine hd_alen (n := W) (k := 0) pkX1_copy rfl (g.ar 0 rfl) (by decide) (by omega) ?_
  refine hd_imin pkX1_copy rfl (Nat.le_of_ble_eq_true rfl) (fun m9 am9 bm9 cm9 => ?_)
  have m9n : n = m9 := by omega
  refine hd_putI pkX1_copy rfl (g.ob 0 rfl).1 (g.ob 0 rfl).2.1 (fun hh2 ehh2 => ?_)
  replace ehh2 : hh2 = sa h o 1 m9 := ehh2
  have ghh2 : G1 [(o, W), (a, A)] hh2 := by rw [ehh2]; exact g.set (by decide) (fun _ _ _ => by decide)
  have o1 : Only [o, o + 1] h hh2 := by rw [ehh2]; exact (Only.refl _ _).set (by simp)
  have l1 : ga hh2 o 1 = n := by rw [ehh2, ga_sa _ _ _ (by decide) (by decide), if_pos rfl]; exact m9n.symm
  have u1 : Only [o] h hh2 := by rw [ehh2]; exact (Only.refl _ _).set List.mem_cons_self
  have f1 : ga hh2 (o + 1) = ga h (o + 1) := onlyF u1 (by simp only [List.mem_cons, List.not_mem_nil, or_false, not_or]; omega)
  have a1 : ga hh2 (a + 1) = ga h (a + 1) := onlyF u1 (by simp only [List.mem_cons, List.not_mem_nil, or_false, not_or]; omega)
  obtain ⟨hM, ehM⟩ : ∃ x : MH, x = hh2 := ⟨_, rfl⟩
  rw [← ehM] at o1 l1 u1 f1 a1
  refine hd_aload pkX1_copy rfl rfl (Int.natCast_nonneg _) ?_
  refine hd_getR (n := a + 1) pkX1_copy rfl (ghh2.ob 1 rfl).1 (ghh2.ob 1 rfl).2.1 (ghh2.rf 1 rfl) ?_
  refine hd_ipush (z := 0) pkX1_copy rfl ?_
  refine hd_aload pkX1_copy rfl rfl (Int.natCast_nonneg _) ?_
  refine hd_getR (n := o + 1) pkX1_copy rfl (ghh2.ob 0 rfl).1 (ghh2.ob 0 rfl).2.1 (ghh2.rf 0 rfl) ?_
  refine hd_ipush (z := 0) pkX1_copy rfl ?_
  refine hd_aload pkX1_copy rfl rfl (Int.natCast_nonneg _) ?_
  refine hd_getI pkX1_copy rfl (ghh2.ob 0 rfl).1 (ghh2.ob 0 rfl).2.1 (fun v3 ev3 rv3 => ?_)
  replace ev3 : v3 = ga hh2 o 1 := ev3
  have qv3 : n = v3 := by rw [ev3, ← ehM]; exact l1.symm
  subst qv3
  refine hd_copyI (m := 51) (i := 16) (by decide) rfl (n := A) (e := W) (ghh2.ar 1 rfl) (by omega) (ghh2.ar 0 rfl) (by omega) (by omega) (by omega) (by omega) (by omega) (by omega) (Nat.le_of_ble_eq_true rfl) (fun hh4 ehh4 => ?_)
  have ghh4 : G1 [(o, W), (a, A)] hh4 := by rw [ehh4]; exact ghh2.copy nx_o
  rw [← ehM] at ehh4
  have o2 : Only [o, o + 1] h hh4 := by rw [ehh4]; exact o1.trans ((only_copy).mono (mem1 (by simp)))
  have l2 : ga hh4 o 1 = n := by rw [ehh4, only_copy.ga (by simp only [List.mem_cons, List.not_mem_nil, or_false, not_or]; omega)]; exact l1
  have b2 : ga hh4 a 2 = ga h a 2 := by rw [ehh4, only_copy.ga (by simp only [List.mem_cons, List.not_mem_nil, or_false, not_or]; omega)]; exact u1.ga (by simp only [List.mem_cons, List.not_mem_nil, or_false, not_or]; omega) _
  have f2 : ∀ j : Int, 0 ≤ j → ga hh4 (o + 1) j = if j < n then ga h (a + 1) j else ga h (o + 1) j := fun j z => by
    rw [ehh4, ga_copy (by omega) z, a1, f1]
  obtain ⟨hN, ehN⟩ : ∃ x : MH, x = hh4 := ⟨_, rfl⟩
  rw [← ehN] at o2 l2 b2 f2
  refine hd_aload pkX1_copy rfl rfl (Int.natCast_nonneg _) ?_
  refine hd_aload pkX1_copy rfl rfl (Int.natCast_nonneg _) ?_
  refine hd_getI pkX1_copy rfl (ghh4.ob 1 rfl).1 (ghh4.ob 1 rfl).2.1 (fun v5 ev5 rv5 => ?_)
  replace ev5 : v5 = ga hh4 a 2 := ev5
  have qv5 : v5 = ga h a 2 := by rw [ev5, ← ehN, b2]
  refine hd_putI pkX1_copy rfl (ghh4.ob 0 rfl).1 (ghh4.ob 0 rfl).2.1 (fun hh6 ehh6 => ?_)
  replace ehh6 : hh6 = sa hh4 o 2 v5 := ehh6
  have ghh6 : G1 [(o, W), (a, A)] hh6 := by rw [ehh6]; exact ghh4.set (by decide) (fun _ _ _ => by decide)
  rw [← ehN] at ehh6
  have u3 : Only [o] hN hh6 := by rw [ehh6]; exact (Only.refl _ _).set List.mem_cons_self
  have o3 : Only [o, o + 1] h hh6 := o2.trans (u3.mono (mem1 (by simp)))
  have l3 : ga hh6 o 1 = n := by rw [ehh6, ga_sa _ _ _ (by decide) (by decide), if_neg (by decide)]; exact l2
  have s3 : ga hh6 o 2 = ga h a 2 := by rw [ehh6, ga_sa _ _ _ (by decide) (by decide), if_pos rfl]; assumption
  have f3 : ga hh6 (o + 1) = ga hN (o + 1) := onlyF u3 (by simp only [List.mem_cons, List.not_mem_nil, or_false, not_or]; omega)
  refine hd_vret pkX1_copy rfl ?_
  subst eQ
  refine ⟨rfl, o3, ghh6, by rw [l3, ln], s3, fun j z w => ?_, fun j z w => ?_⟩
  · rw [f3, f2 j z]
    split
    · exact da j z w
    · exact d0 j z w
  · rw [f3, f2 j z, if_pos (by omega)]
set_option maxRecDepth 20000 in
set_option maxHeartbeats 8000000 in
theorem h_X1_divideSmall {h : MH} {o W : Nat} (o4 : 3 ≤ o) (W9 : W ≤ 1000) {by9 : Int} (bb : 1 ≤ by9 ∧ by9 ≤ 1073741823) (lb : 0 ≤ ga h o 1 ∧ ga h o 1 ≤ (W : Int)) (d0 : Dg1 (ga h (o + 1)) 1099511627776) (g : G1 [(o, W)] h) : MCal KX1_divideSmall yX1_divideSmall 0 0 [(2, ((o : Nat) : Int)), (0, by9)] h (mRI fun v h' => Only [o, o + 1] h h' ∧ G1 [(o, W)] h' ∧ Dg1 (ga h' (o + 1)) 1099511627776 ∧ (0 ≤ ga h' o 1 ∧ ga h' o 1 ≤ ga h o 1) ∧ v = nv1 (ga h (o + 1)) (ga h o 1).toNat % by9 ∧ nv1 (ga h' (o + 1)) (ga h' o 1).toNat = nv1 (ga h (o + 1)) (ga h o 1).toNat / by9 ∧ (1 ≤ ga h' o 1 → 1 ≤ ga h' (o + 1) (ga h' o 1 - 1)) ∧ ga h' o 2 = (if ga h' o 1 = 0 then 0 else ga h o 2)) := by
  refine MCal.ofMW (Or.inl rfl) ⟨cp_X1, rfl⟩ (Nat.le_of_ble_eq_true rfl) ?_
  generalize eQ : (mRI fun v h' => Only [o, o + 1] h h' ∧ G1 [(o, W)] h' ∧ Dg1 (ga h' (o + 1)) 1099511627776 ∧ (0 ≤ ga h' o 1 ∧ ga h' o 1 ≤ ga h o 1) ∧ v = nv1 (ga h (o + 1)) (ga h o 1).toNat % by9 ∧ nv1 (ga h' (o + 1)) (ga h' o 1).toNat = nv1 (ga h (o + 1)) (ga h o 1).toNat / by9 ∧ (1 ≤ ga h' o 1 → 1 ≤ ga h' (o + 1) (ga h' o 1 - 1)) ∧ ga h' o 2 = (if ga h' o 1 = 0 then 0 else ga h o 2) : MO → MH → Prop) = Q
  change MW KX1_divideSmall Q 0 0 (pcA pgX1_divideSmall 0) [(0, (2, ((o : Nat) : Int))), (1, (0, by9))] [] h
  refine hd_locI (i := 1) rfl (fun rby9 => ?_)
  have nx_o : ∀ qq ∈ ([(o, W)] : List (Nat × Nat)), ¬ o + 1 = qq.1 := fun qq hq => by
    simp only [List.mem_cons, List.not_mem_nil, or_false] at hq
    rcases hq with rfl <;> (dsimp only; omega)
  obtain ⟨n, ln⟩ : ∃ n : Int, ga h o 1 = n := ⟨_, rfl⟩
  have nA := lb
  rw [ln] at nA
  refine hd_iload pkX1_divideSmall rfl rfl ?_
  refine hd_ipush (z := 1) pkX1_divideSmall rfl ?_
  refine hd_ic_ge pkX1_divideSmall rfl (fun c1 => ?_) (fun c1 => ?_)
  · skip
    refine hd_lpush (z := 0) pkX1_divideSmall rfl ?_
    refine hd_lstore pkX1_divideSmall rfl rfl ?_
    change MW _ _ _ _ _ [(2, (1, 0)), (0, (2, ((o : Nat) : Int))), (1, (0, by9))] _ _
    refine hd_aload pkX1_divideSmall rfl rfl (Int.natCast_nonneg _) ?_
    refine hd_getI pkX1_divideSmall rfl (g.ob 0 rfl).1 (g.ob 0 rfl).2.1 (fun v2 ev2 rv2 => ?_)
    replace ev2 : v2 = ga h o 1 := ev2
    have qv2 : n = v2 := by rw [ev2]; exact ln.symm
    subst qv2
    refine hd_ipush (z := 1) pkX1_divideSmall rfl ?_
    refine hd_isub pkX1_divideSmall rfl (by omega) ?_
    refine hd_istore pkX1_divideSmall rfl rfl ?_
    change MW _ _ _ _ _ [(4, (0, (n - 1))), (2, (1, 0)), (0, (2, ((o : Nat) : Int))), (1, (0, by9))] _ _
    have lp12 : ∀ (N12 : Nat) (rs k : Int) (hD : MH), G1 [(o, W)] hD → (Only [o + 1] h hD) → (-1 ≤ k ∧ k < n) → (0 ≤ rs ∧ rs < by9) → (Dg1 (ga hD (o + 1)) 1099511627776) → (∀ j : Int, 0 ≤ j → j ≤ k → ga hD (o + 1) j = ga h (o + 1) j) → (nv1 (ga h (o + 1)) n.toNat = by9 * (nv1 (ga hD (o + 1)) n.toNat - nv1 (ga hD (o + 1)) (k + 1).toNat) + rs * 1073741824 ^ (k + 1).toNat + nv1 (ga h (o + 1)) (k + 1).toNat) → k + 1 < (N12 : Int) → MW KX1_divideSmall Q 0 0 (pcA pgX1_divideSmall 12) [(0, (2, ((o : Nat) : Int))), (1, (0, by9)), (2, (1, rs)), (4, (0, k))] [] hD := by
      intro N12
      induction N12 with
      | zero => intro rs k hD g12 hO kb rb dg lo eq hm12; exfalso; omega
      | succ N12 ih12 =>
        intro rs k hD g12 hO kb rb dg lo eq hm12
        refine hd_iload pkX1_divideSmall rfl rfl ?_
        refine hd_if_lt pkX1_divideSmall rfl (fun c3 => ?_) (fun c3 => ?_)
        · skip
          refine hd_aload pkX1_divideSmall rfl rfl (Int.natCast_nonneg _) ?_
          refine hd_aload pkX1_divideSmall rfl rfl (Int.natCast_nonneg _) ?_
          refine hd_getI pkX1_divideSmall rfl (g12.ob 0 rfl).1 (g12.ob 0 rfl).2.1 (fun v4 ev4 rv4 => ?_)
          replace ev4 : v4 = ga hD o 1 := ev4
          have qv4 : n = v4 := by rw [ev4, hO.ga (by simp only [List.mem_cons, List.not_mem_nil, or_false, not_or]; omega)]; exact ln.symm
          subst qv4
          refine hd_callV pkX1_divideSmall rfl (q := (KX1_trim, yX1_trim, 1, 1, 0)) rfl rfl rfl (As := [(0, n)]) (rest := []) (c := o) rfl rfl (Nat.le_of_ble_eq_true rfl) (g12.ob 0 rfl).1 (g12.ob 0 rfl).2.1 (h_X1_trim (o := o) (W := W) (t := n) o4 W9 (by omega) (g12.sub (fun q hq => by simp only [List.mem_cons, List.not_mem_nil, or_false] at hq; (first | (rcases hq with rfl | rfl | rfl | rfl) | (rcases hq with rfl | rfl | rfl) | (rcases hq with rfl | rfl) | (rcases hq with rfl)) <;> simp))) (hd_bV (fun hc5 pt => ?_))
          have ghc5 : G1 [(o, W)] hc5 := pt.2.1
          refine hd_lload pkX1_divideSmall rfl rfl ?_
          refine hd_l2i pkX1_divideSmall rfl (by omega) ?_
          refine hd_iret pkX1_divideSmall rfl ?_
          subst eQ
          have ek : k = -1 := by omega
          subst ek
          have tv := pt.2.2.val pt.1 dg (W := W) (by omega) W9 (by omega)
          have e0 : nv1 (ga h (o + 1)) n.toNat = by9 * nv1 (ga hD (o + 1)) n.toNat + rs := by
            rw [eq]
            show by9 * (nv1 _ _ - 0) + rs * 1 + 0 = _
            rw [Int.sub_zero, Int.mul_one, Int.add_zero]
          have dv1 := small2 (y := by9) (by omega) rb e0
          have len := pt.2.2.1
          have sg : ga hD o 2 = ga h o 2 := hO.ga (by simp only [List.mem_cons, List.not_mem_nil, or_false, not_or]; omega) 2
          refine ⟨rfl, rfl, (hO.mono (by intro c hc; simp only [List.mem_cons, List.not_mem_nil, or_false] at hc ⊢; omega)).trans (pt.1.mono (by intro c hc; simp only [List.mem_cons, List.not_mem_nil, or_false] at hc ⊢; omega)), ghc5, tv.2.1, ⟨len.1, by rw [ln]; exact len.2⟩, by rw [ln]; exact dv1.2, ?_, tv.2.2.1, ?_⟩
          · rw [ln, tv.1]
            exact dv1.1
          · rw [pt.2.2.2.2.2, sg]
        · skip
          refine hd_lload pkX1_divideSmall rfl rfl ?_
          refine hd_ipush (z := 30) pkX1_divideSmall rfl ?_
          refine hd_lshl (v := (rs * 1073741824)) pkX1_divideSmall rfl (by have z := h_lshlv (s := 30) (x := rs) (by decide) rb.1 (by show rs * 1073741824 < _; omega); rw [show (2 : Int) ^ (30 : Int).toNat = 1073741824 by decide] at z; exact z) ?_
          refine hd_aload pkX1_divideSmall rfl rfl (Int.natCast_nonneg _) ?_
          refine hd_getR (n := o + 1) pkX1_divideSmall rfl (g12.ob 0 rfl).1 (g12.ob 0 rfl).2.1 (g12.rf 0 rfl) ?_
          refine hd_iload pkX1_divideSmall rfl rfl ?_
          refine hd_iald (n := W) pkX1_divideSmall rfl (g12.ar 0 rfl) (by omega) (by omega) (fun v6 ev6 rv6 => ?_)
          obtain ⟨dd, qv6⟩ : ∃ x : Int, x = v6 := ⟨_, rfl⟩
          have dv : dd = ga h (o + 1) k := (qv6.trans ev6).trans (lo k (by omega) (Int.le_refl _))
          have db : 0 ≤ dd ∧ dd ≤ 1073741823 := by rw [qv6, ev6]; exact dg k (by omega) (by omega)
          subst qv6
          refine hd_i2l pkX1_divideSmall rfl ?_
          refine hd_ladd pkX1_divideSmall rfl (by omega) ?_
          generalize evv : ((rs * 1073741824) + dd) = vv
          have vb : 0 ≤ vv ∧ vv < by9 * 1073741824 := by omega
          have dm := tdiv12 (x := vv) (y := by9) vb.1 (by omega)
          have dq : vv / by9 < 1073741824 := Int.ediv_lt_of_lt_mul (by omega) (by rw [Int.mul_comm]; exact vb.2)
          have em := emod_of (x := vv) (y := by9) vb.1 (by omega)
          have dd9 := Int.emod_add_mul_ediv vv by9
          refine hd_lstore pkX1_divideSmall rfl rfl ?_
          change MW _ _ _ _ _ [(5, (1, vv)), (0, (2, ((o : Nat) : Int))), (1, (0, by9)), (2, (1, rs)), (4, (0, k))] _ _
          refine hd_aload pkX1_divideSmall rfl rfl (Int.natCast_nonneg _) ?_
          refine hd_getR (n := o + 1) pkX1_divideSmall rfl (g12.ob 0 rfl).1 (g12.ob 0 rfl).2.1 (g12.rf 0 rfl) ?_
          refine hd_iload pkX1_divideSmall rfl rfl ?_
          refine hd_lload pkX1_divideSmall rfl rfl ?_
          refine hd_iload pkX1_divideSmall rfl rfl ?_
          refine hd_i2l pkX1_divideSmall rfl ?_
          refine hd_ldiv pkX1_divideSmall rfl (by omega) (by rw [dm.1]; omega) ?_
          generalize eq9 : (Int.tdiv vv by9) = q9
          rw [dm.1] at eq9
          refine hd_l2i pkX1_divideSmall rfl (by omega) ?_
          refine hd_iast (n := W) pkX1_divideSmall rfl (g12.ar 0 rfl) (by omega) (by omega) (by omega) (fun hh7 ehh7 => ?_)
          have ghh7 : G1 [(o, W)] hh7 := by rw [ehh7]; exact g12.set (by omega) (fun qq hq w => absurd w (nx_o qq hq))
          have o2 : Only [o + 1] h hh7 := by rw [ehh7]; exact hO.set List.mem_cons_self
          have f2 : ∀ j : Int, 0 ≤ j → ga hh7 (o + 1) j = if j = k then q9 else ga hD (o + 1) j := fun j a => by rw [ehh7]; exact ga_sa _ _ _ (by omega) a
          refine hd_lload pkX1_divideSmall rfl rfl ?_
          refine hd_iload pkX1_divideSmall rfl rfl ?_
          refine hd_i2l pkX1_divideSmall rfl ?_
          refine hd_lrem pkX1_divideSmall rfl (by omega) (by rw [em.1]; omega) ?_
          generalize er9 : (Int.tmod vv by9) = r9
          rw [em.1] at er9
          refine hd_lstore pkX1_divideSmall rfl rfl ?_
          change MW _ _ _ _ _ [(2, (1, r9)), (5, (1, vv)), (0, (2, ((o : Nat) : Int))), (1, (0, by9)), (4, (0, k))] _ _
          refine hd_iinc (z := (-1)) pkX1_divideSmall rfl rfl (by omega) rfl ?_
          change MW _ _ _ _ _ [(4, (0, (k + (-1)))), (2, (1, r9)), (5, (1, vv)), (0, (2, ((o : Nat) : Int))), (1, (0, by9))] _ _
          refine hd_goto pkX1_divideSmall rfl ?_
          refine m_sub [(0, (2, ((o : Nat) : Int))), (1, (0, by9)), (2, (1, r9)), (4, (0, (k + (-1))))] (List.forall_mem_cons.mpr ⟨rfl, List.forall_mem_cons.mpr ⟨rfl, List.forall_mem_cons.mpr ⟨rfl, List.forall_mem_cons.mpr ⟨rfl, fun _ h => absurd h List.not_mem_nil⟩⟩⟩⟩) ?_
          refine ih12  (r9) ((k + (-1))) hh7 ghh7 ?_ ?_ ?_ ?_ ?_ ?_ ?_
          · exact o2
          · omega
          · omega
          · intro j a b
            rw [f2 j a]
            split
            · omega
            · exact dg j a b
          · intro j a b
            rw [f2 j a, if_neg (by omega)]
            exact lo j a (by omega)
          · have u := nv1_upd (f := ga hD (o + 1)) (g := ga hh7 (o + 1)) (k := k.toNat) (n := n.toNat) (by omega) (fun j a b => by rw [f2 j a, if_neg (by omega)])
            have u2 := nv1_cg (f := ga hh7 (o + 1)) (g := ga hD (o + 1)) (n := k.toNat) (fun j a b => by rw [f2 j a, if_neg (by omega)])
            have s1 : nv1 (ga hD (o + 1)) (k + 1).toNat = nv1 (ga hD (o + 1)) k.toNat + ga hD (o + 1) k * 1073741824 ^ k.toNat := by
              rw [show (k + 1).toNat = k.toNat + 1 by omega]
              show _ + ga hD (o + 1) ((k.toNat : Nat) : Int) * _ = _
              rw [show ((k.toNat : Nat) : Int) = k by omega]
            have s2 : nv1 (ga h (o + 1)) (k + 1).toNat = nv1 (ga h (o + 1)) k.toNat + dd * 1073741824 ^ k.toNat := by
              rw [show (k + 1).toNat = k.toNat + 1 by omega]
              show _ + ga h (o + 1) ((k.toNat : Nat) : Int) * _ = _
              rw [show ((k.toNat : Nat) : Int) = k by omega, dv]
            rw [show ((k.toNat : Nat) : Int) = k by omega, f2 k (by omega), if_pos rfl] at u
            rw [show k + -1 + 1 = k by omega, u, u2, eq, s1, s2, show (k + 1).toNat = k.toNat + 1 by omega, p30_s]
            exact small1 (by rw [evv, ← eq9, ← er9]; omega)
          · omega
    refine m_sub [(0, (2, ((o : Nat) : Int))), (1, (0, by9)), (2, (1, 0)), (4, (0, (n - 1)))] (List.forall_mem_cons.mpr ⟨rfl, List.forall_mem_cons.mpr ⟨rfl, List.forall_mem_cons.mpr ⟨rfl, List.forall_mem_cons.mpr ⟨rfl, fun _ h => absurd h List.not_mem_nil⟩⟩⟩⟩) ?_
    refine lp12 ((((n - 1)) + 1) + 1).toNat (0) ((n - 1)) h g ?_ ?_ ?_ ?_ ?_ ?_ ?_
    · exact Only.refl _ _
    · omega
    · omega
    · exact d0
    · intro j _ _
      rfl
    · rw [show n - 1 + 1 = n by omega, Int.sub_self, Int.mul_zero, Int.zero_mul]
      omega
    · omega
  · exfalso
    omega
