set_option maxRecDepth 20000 in
set_option maxHeartbeats 8000000 in
theorem h_X19_rest {h : MH} {a m : Int} (ha : 0 ≤ a) (ha2 : a < 30) (hm : 1 ≤ m) (hm2 : m ≤ 549755813887) (A : Num (ga h 2515) 140 a) (g : Str t19 r19 h) : MCal KX19_rest yX19_rest 0 0 [(2, ((2514 : Nat) : Int)), (0, a), (1, m)] h (mRL fun v h' => v = vl (ga h 2515) 140 a % m ∧ h' = h) := by
  refine MCal.ofMW (Or.inl rfl) ⟨cp_X19, rfl⟩ (Nat.le_of_ble_eq_true rfl) ?_
  generalize eQ : (mRL fun v h' => v = vl (ga h 2515) 140 a % m ∧ h' = h : MO → MH → Prop) = Q
  change MW KX19_rest Q 0 0 (pcA pgX19_rest 0) [(0, (2, ((2514 : Nat) : Int))), (1, (0, a)), (2, (1, m))] [] h
  refine hd_locI (i := 1) rfl (fun ra => ?_)
  refine hd_locL (i := 2) rfl (fun rm => ?_)
  have A1 := A.1
  have A2 := A.2.1
  have az : sz (ga h 2515) 140 a = ga h 2515 (140 * a) := rfl
  refine hd_lpush (z := 0) pkX19_rest rfl ?_
  refine hd_lstore pkX19_rest rfl rfl ?_
  change MW _ _ _ _ _ [(4, (1, 0)), (0, (2, ((2514 : Nat) : Int))), (1, (0, a)), (2, (1, m))] _ _
  refine hd_aload pkX19_rest rfl rfl (Int.natCast_nonneg _) ?_
  refine hd_getR (n := 2515) pkX19_rest rfl (g.cell 0 rfl).1 (g.cell 0 rfl).2.1 (g.ref 0 rfl) ?_
  refine hd_ipush (z := 140) pkX19_rest rfl ?_
  refine hd_iload pkX19_rest rfl rfl ?_
  refine hd_imul pkX19_rest rfl (by omega) ?_
  refine hd_iald (n := 4200) pkX19_rest rfl (g.cell 1 rfl) (by omega) (by omega) (fun v1 ev1 rv1 => ?_)
  refine hd_istore pkX19_rest rfl rfl ?_
  change MW _ _ _ _ _ [(6, (0, v1)), (4, (1, 0)), (0, (2, ((2514 : Nat) : Int))), (1, (0, a)), (2, (1, m))] _ _
  have lp9 : ∀ (N9 : Nat) (r k : Int), (0 ≤ k) → (k ≤ v1) → (0 ≤ r ∧ r < m) → (m ∣ bl (lm (ga h 2515) 140 a) v1.toNat - bl (lm (ga h 2515) 140 a) k.toNat - r * PW k.toNat) → k < (N9 : Int) → MW KX19_rest Q 0 0 (pcA pgX19_rest 9) [(0, (2, ((2514 : Nat) : Int))), (1, (0, a)), (2, (1, m)), (4, (1, r)), (6, (0, k))] [] h := by
    intro N9
    induction N9 with
    | zero => intro r k k0 k1 r0 i7 hm9; exfalso; omega
    | succ N9 ih9 =>
      intro r k k0 k1 r0 i7 hm9
      refine hd_iload pkX19_rest rfl rfl ?_
      refine hd_if_le pkX19_rest rfl (fun c2 => ?_) (fun c2 => ?_)
      · skip
        refine hd_lload pkX19_rest rfl rfl ?_
        refine hd_lret pkX19_rest rfl ?_
        subst eQ
        have k9 : k = 0 := by omega
        rw [k9] at i7
        refine ⟨rfl, rfl, ?_, rfl⟩
        refine rest_end (by omega) r0.1 r0.2 ?_
        have sa2 : (sz (ga h 2515) 140 a).toNat = v1.toNat := by omega
        unfold vl
        rw [sa2]
        have p0 : PW (0 : Int).toNat = 1 := rfl
        have b0 : bl (lm (ga h 2515) 140 a) (0 : Int).toNat = 0 := rfl
        rw [p0, b0, Int.sub_zero, Int.mul_one] at i7
        exact i7
      · skip
        refine hd_lload pkX19_rest rfl rfl ?_
        refine hd_ipush (z := 24) pkX19_rest rfl ?_
        refine hd_lshl (v := (r * 16777216)) pkX19_rest rfl (by exact h_lshl24 (by omega) (by omega)) ?_
        refine hd_aload pkX19_rest rfl rfl (Int.natCast_nonneg _) ?_
        refine hd_getR (n := 2515) pkX19_rest rfl (g.cell 0 rfl).1 (g.cell 0 rfl).2.1 (g.ref 0 rfl) ?_
        refine hd_ipush (z := 140) pkX19_rest rfl ?_
        refine hd_iload pkX19_rest rfl rfl ?_
        refine hd_imul pkX19_rest rfl (by omega) ?_
        refine hd_iload pkX19_rest rfl rfl ?_
        refine hd_iadd pkX19_rest rfl (by omega) ?_
        refine hd_iald (n := 4200) pkX19_rest rfl (g.cell 1 rfl) (by omega) (by omega) (fun v3 ev3 rv3 => ?_)
        have ex : lm (ga h 2515) 140 a k = v3 := by
          show ga h 2515 (140 * a + k) = v3
          rw [ev3]
        have rx : 0 ≤ v3 ∧ v3 < 16777216 := by rw [← ex]; exact A.2.2.1 k (by omega) (by omega)
        have dq := div_q (v := r * 16777216 + v3) (m := m) (by omega) hm (by omega)
        refine hd_i2l pkX19_rest rfl ?_
        refine hd_ladd pkX19_rest rfl (by omega) ?_
        refine hd_lload pkX19_rest rfl rfl ?_
        refine hd_lrem pkX19_rest rfl (by omega) (by omega) ?_
        refine hd_lstore pkX19_rest rfl rfl ?_
        change MW _ _ _ _ _ [(4, (1, (Int.tmod ((r * 16777216) + v3) m))), (0, (2, ((2514 : Nat) : Int))), (1, (0, a)), (2, (1, m)), (6, (0, k))] _ _
        refine hd_iinc (z := (-1)) pkX19_rest rfl rfl (by omega) rfl ?_
        change MW _ _ _ _ _ [(6, (0, (k + (-1)))), (4, (1, (Int.tmod ((r * 16777216) + v3) m))), (0, (2, ((2514 : Nat) : Int))), (1, (0, a)), (2, (1, m))] _ _
        refine hd_goto pkX19_rest rfl ?_
        refine m_sub [(0, (2, ((2514 : Nat) : Int))), (1, (0, a)), (2, (1, m)), (4, (1, (Int.tmod ((r * 16777216) + v3) m))), (6, (0, (k + (-1))))] (List.forall_mem_cons.mpr ⟨rfl, List.forall_mem_cons.mpr ⟨rfl, List.forall_mem_cons.mpr ⟨rfl, List.forall_mem_cons.mpr ⟨rfl, List.forall_mem_cons.mpr ⟨rfl, fun _ h => absurd h List.not_mem_nil⟩⟩⟩⟩⟩) ?_
        refine ih9  ((Int.tmod ((r * 16777216) + v3) m)) ((k + (-1))) ?_ ?_ ?_ ?_ ?_
        · omega
        · omega
        · exact ⟨dq.2.2.1, dq.2.2.2.1⟩
        · have e : k + -1 = k - 1 := by omega
          rw [e]
          exact rest_step (by omega) k1 ex dq.2.2.2.2 i7
        · omega
  refine m_sub [(0, (2, ((2514 : Nat) : Int))), (1, (0, a)), (2, (1, m)), (4, (1, 0)), (6, (0, v1))] (List.forall_mem_cons.mpr ⟨rfl, List.forall_mem_cons.mpr ⟨rfl, List.forall_mem_cons.mpr ⟨rfl, List.forall_mem_cons.mpr ⟨rfl, List.forall_mem_cons.mpr ⟨rfl, fun _ h => absurd h List.not_mem_nil⟩⟩⟩⟩⟩) ?_
  refine lp9 (((v1)) + 1).toNat (0) (v1) ?_ ?_ ?_ ?_ ?_
  · omega
  · omega
  · omega
  · rw [Int.sub_self, Int.zero_mul, Int.sub_zero]
    exact Int.dvd_zero ..
  · omega
set_option maxRecDepth 20000 in
set_option maxHeartbeats 8000000 in
theorem h_X19_times {h : MH} {a x y : Int} {m n : Nat} (ha : 0 ≤ a) (ha2 : a < 30) (an21 : a ≠ 21) (an22 : a ≠ 22) (VA : Nv 140 2515 2516 h a x) (hm0 : -9223372036854775807 ≤ y) (hx : (x.natAbs : Int) < PW m) (hy : (y.natAbs : Int) < PW n) (hm : (m : Int) + n < 140) (g : Str t19 r19 h) : MCal KX19_times yX19_times 0 0 [(2, ((2514 : Nat) : Int)), (0, a), (1, y)] h (mRV fun h' => Ch 140 2515 2516 [a, 21, 22] h h' ∧ Nv 140 2515 2516 h' a (x * y)) := by
  refine MCal.ofMW (Or.inl rfl) ⟨cp_X19, rfl⟩ (Nat.le_of_ble_eq_true rfl) ?_
  generalize eQ : (mRV fun h' => Ch 140 2515 2516 [a, 21, 22] h h' ∧ Nv 140 2515 2516 h' a (x * y) : MO → MH → Prop) = Q
  change MW KX19_times Q 0 0 (pcA pgX19_times 0) [(0, (2, ((2514 : Nat) : Int))), (1, (0, a)), (2, (1, y))] [] h
  refine hd_locI (i := 1) rfl (fun ra => ?_)
  refine hd_locL (i := 2) rfl (fun ry => ?_)
  have hC : Ch 140 2515 2516 [a, 21, 22] h h := Ch.refl _ _ _ _ _
  refine hd_aload pkX19_times rfl rfl (Int.natCast_nonneg _) ?_
  refine hd_ipush (z := 21) pkX19_times rfl ?_
  refine hd_lload pkX19_times rfl rfl ?_
  refine hd_callV pkX19_times rfl (q := (KX19_small, yX19_small, 19, 2, 0)) rfl rfl rfl (As := [(0, 21), (1, y)]) (rest := []) (c := 2514) rfl rfl (Nat.le_of_ble_eq_true rfl) (g.cell 0 rfl).1 (g.cell 0 rfl).2.1 (h_X19_small (by decide) (by decide) hm0 g) (hd_bV (fun hc1 pp0 => ?_))
  have ghc1 : Str t19 r19 hc1 := g.only pp0.1.1 (by decide)
  have hC := hC.trans (pp0.1.mono (all1 (inC inS)))
  have VA := VA.keep (by decide) pp0.1 ha (nm1 an21)
  have V1 := nv_small pp0
  refine hd_aload pkX19_times rfl rfl (Int.natCast_nonneg _) ?_
  refine hd_iload pkX19_times rfl rfl ?_
  refine hd_ipush (z := 21) pkX19_times rfl ?_
  refine hd_ipush (z := 22) pkX19_times rfl ?_
  have VAo := VA
  have V1o := V1
  refine hd_callV pkX19_times rfl (q := (KX19_product, yX19_product, 19, 3, 0)) rfl rfl rfl (As := [(0, a), (0, 21), (0, 22)]) (rest := []) (c := 2514) rfl rfl (Nat.le_of_ble_eq_true rfl) (ghc1.cell 0 rfl).1 (ghc1.cell 0 rfl).2.1 (h_X19_product ha ha2 (by decide) (by decide) (by decide) (by decide) an22 (by decide) VA.1 V1.1 (nv_szs VA V1 hx hy hm) VA.sg V1.sg ghc1) (hd_bV (fun hc2 pp1 => ?_))
  have ghc2 : Str t19 r19 hc2 := ghc1.only pp1.1.1 (by decide)
  have hC := hC.trans (pp1.1.mono (all1 (inC (inC inS))))
  have V2 := nv_product VAo V1o pp1
  refine hd_aload pkX19_times rfl rfl (Int.natCast_nonneg _) ?_
  refine hd_ipush (z := 22) pkX19_times rfl ?_
  refine hd_iload pkX19_times rfl rfl ?_
  refine hd_callV pkX19_times rfl (q := (KX19_copy, yX19_copy, 19, 2, 0)) rfl rfl rfl (As := [(0, 22), (0, a)]) (rest := []) (c := 2514) rfl rfl (Nat.le_of_ble_eq_true rfl) (ghc2.cell 0 rfl).1 (ghc2.cell 0 rfl).2.1 (h_X19_copy (by decide) (by decide) ha ha2 V2.1 ghc2) (hd_bV (fun hc3 pp2 => ?_))
  have ghc3 : Str t19 r19 hc3 := ghc2.only pp2.1.1 (by decide)
  have hC := hC.trans (pp2.1.mono (all1 inS))
  have VA := nv_copy V2 pp2
  refine hd_vret pkX19_times rfl ?_
  subst eQ
  exact ⟨rfl, hC, VA⟩
set_option maxRecDepth 20000 in
set_option maxHeartbeats 8000000 in
theorem h_X19_order {h : MH} {a b x y : Int} (ha : 0 ≤ a) (ha2 : a < 30) (hb : 0 ≤ b) (hb2 : b < 30) (VA : Nv 140 2515 2516 h a x) (VB : Nv 140 2515 2516 h b y) (g : Str t19 r19 h) : MCal KX19_order yX19_order 0 0 [(2, ((2514 : Nat) : Int)), (0, a), (0, b)] h (mRI fun v h' => ((v < 0 ↔ x < y) ∧ (0 < v ↔ y < x)) ∧ h' = h) := by
  refine MCal.ofMW (Or.inl rfl) ⟨cp_X19, rfl⟩ (Nat.le_of_ble_eq_true rfl) ?_
  generalize eQ : (mRI fun v h' => ((v < 0 ↔ x < y) ∧ (0 < v ↔ y < x)) ∧ h' = h : MO → MH → Prop) = Q
  change MW KX19_order Q 0 0 (pcA pgX19_order 0) [(0, (2, ((2514 : Nat) : Int))), (1, (0, a)), (2, (0, b))] [] h
  refine hd_locI (i := 1) rfl (fun ra => ?_)
  refine hd_locI (i := 2) rfl (fun rb => ?_)
  refine hd_aload pkX19_order rfl rfl (Int.natCast_nonneg _) ?_
  refine hd_getR (n := 2516) pkX19_order rfl (g.cell 0 rfl).1 (g.cell 0 rfl).2.1 (g.ref 1 rfl) ?_
  refine hd_iload pkX19_order rfl rfl ?_
  refine hd_iald (n := 30) pkX19_order rfl (g.cell 2 rfl) (by omega) (by omega) (fun v1 ev1 rv1 => ?_)
  have sv1 : v1 = x.sign := by rw [ev1]; exact VA.2.2
  have tv1 := sgn3 x
  refine hd_aload pkX19_order rfl rfl (Int.natCast_nonneg _) ?_
  refine hd_getR (n := 2516) pkX19_order rfl (g.cell 0 rfl).1 (g.cell 0 rfl).2.1 (g.ref 1 rfl) ?_
  refine hd_iload pkX19_order rfl rfl ?_
  refine hd_iald (n := 30) pkX19_order rfl (g.cell 2 rfl) (by omega) (by omega) (fun v2 ev2 rv2 => ?_)
  have sv2 : v2 = y.sign := by rw [ev2]; exact VB.2.2
  have tv2 := sgn3 y
  refine hd_ic_eq pkX19_order rfl (fun c3 => ?_) (fun c3 => ?_)
  · skip
    refine hd_aload pkX19_order rfl rfl (Int.natCast_nonneg _) ?_
    refine hd_getR (n := 2516) pkX19_order rfl (g.cell 0 rfl).1 (g.cell 0 rfl).2.1 (g.ref 1 rfl) ?_
    refine hd_iload pkX19_order rfl rfl ?_
    refine hd_iald (n := 30) pkX19_order rfl (g.cell 2 rfl) (by omega) (by omega) (fun v4 ev4 rv4 => ?_)
    have sv4 : v4 = x.sign := by rw [ev4]; exact VA.2.2
    have tv4 := sgn3 x
    refine hd_aload pkX19_order rfl rfl (Int.natCast_nonneg _) ?_
    refine hd_iload pkX19_order rfl rfl ?_
    refine hd_iload pkX19_order rfl rfl ?_
    refine hd_callV pkX19_order rfl (q := (KX19_compare, yX19_compare, 19, 2, 0)) rfl rfl rfl (As := [(0, a), (0, b)]) (rest := [(0, v4)]) (c := 2514) rfl rfl (Nat.le_of_ble_eq_true rfl) (g.cell 0 rfl).1 (g.cell 0 rfl).2.1 (h_X19_compare ha ha2 hb hb2 VA.1 VB.1 g) (hd_bI (fun cw hc5 pc => ?_))
    obtain ⟨pc, ehc5⟩ := pc
    replace ehc5 := ehc5.symm
    subst ehc5
    rw [VA.2.1, VB.2.1] at pc
    refine hd_topI (fun rcw => ?_)
    refine hd_imul pkX19_order rfl (by rcases sgn3 x with w | w | w <;> rw [sv4, w.2] <;> omega) ?_
    refine hd_iret pkX19_order rfl ?_
    subst eQ
    refine ⟨rfl, rfl, ?_, rfl⟩
    first
      | exact sgn_ord (by assumption) (by assumption) (by omega)
      | (have e9 : x.sign = y.sign := by omega
         have q9 := sgn_cmp e9 ⟨pc.1, pc.2.1, pc.2.2.1⟩
         rw [← sv4] at q9
         exact q9)
  · skip
    refine hd_aload pkX19_order rfl rfl (Int.natCast_nonneg _) ?_
    refine hd_getR (n := 2516) pkX19_order rfl (g.cell 0 rfl).1 (g.cell 0 rfl).2.1 (g.ref 1 rfl) ?_
    refine hd_iload pkX19_order rfl rfl ?_
    refine hd_iald (n := 30) pkX19_order rfl (g.cell 2 rfl) (by omega) (by omega) (fun v6 ev6 rv6 => ?_)
    have sv6 : v6 = x.sign := by rw [ev6]; exact VA.2.2
    have tv6 := sgn3 x
    refine hd_aload pkX19_order rfl rfl (Int.natCast_nonneg _) ?_
    refine hd_getR (n := 2516) pkX19_order rfl (g.cell 0 rfl).1 (g.cell 0 rfl).2.1 (g.ref 1 rfl) ?_
    refine hd_iload pkX19_order rfl rfl ?_
    refine hd_iald (n := 30) pkX19_order rfl (g.cell 2 rfl) (by omega) (by omega) (fun v7 ev7 rv7 => ?_)
    have sv7 : v7 = y.sign := by rw [ev7]; exact VB.2.2
    have tv7 := sgn3 y
    refine hd_isub pkX19_order rfl (by omega) ?_
    refine hd_iret pkX19_order rfl ?_
    subst eQ
    refine ⟨rfl, rfl, ?_, rfl⟩
    first
      | exact sgn_ord (by assumption) (by assumption) (by omega)
      | (have e9 : x.sign = y.sign := by omega
         have q9 := sgn_cmp e9 ⟨pc.1, pc.2.1, pc.2.2.1⟩
         rw [← sv4] at q9
         exact q9)
