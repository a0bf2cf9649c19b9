/-! X1 by hand: shifted, a limb of a quotient -/
set_option maxRecDepth 20000 in
set_option maxHeartbeats 8000000 in
theorem h_X1_shifted {h : MH} {o W v V : Nat} (o4 : 3 ≤ o) (W9 : W ≤ 1000) (v4 : 3 ≤ v) (V9 : V ≤ 1000) {n s P : Int} (ov : o = v ∨ o + 1 < v ∨ v + 1 < o) (nb : 0 ≤ n ∧ n ≤ (V : Int) ∧ n ≤ (W : Int)) (sb : 0 ≤ s ∧ s ≤ 29) (eP : P = 2 ^ s.toNat) (d0 : Dg1 (ga h (o + 1)) 1099511627776) (dv : Dg1 (ga h (v + 1)) 1099511627776) (g : G1 [(o, W), (v, V)] h) : MCal KX1_shifted yX1_shifted 0 0 [(2, ((o : Nat) : Int)), (2, ((v : Nat) : Int)), (0, n), (0, s)] h (mRI fun c h' => (0 ≤ c ∧ c < P) ∧ Only [o + 1] h h' ∧ G1 [(o, W), (v, V)] h' ∧ Dg1 (ga h' (o + 1)) 1099511627776 ∧ (nv1 (ga h' (o + 1)) n.toNat + c * 1073741824 ^ n.toNat = P * nv1 (ga h (v + 1)) n.toNat) ∧ ∀ j : Int, n ≤ j → ga h' (o + 1) j = ga h (o + 1) j) := by
  refine MCal.ofMW (Or.inl rfl) ⟨cp_X1, rfl⟩ (Nat.le_of_ble_eq_true rfl) ?_
  generalize eQ : (mRI fun c h' => (0 ≤ c ∧ c < P) ∧ Only [o + 1] h h' ∧ G1 [(o, W), (v, V)] h' ∧ Dg1 (ga h' (o + 1)) 1099511627776 ∧ (nv1 (ga h' (o + 1)) n.toNat + c * 1073741824 ^ n.toNat = P * nv1 (ga h (v + 1)) n.toNat) ∧ ∀ j : Int, n ≤ j → ga h' (o + 1) j = ga h (o + 1) j : MO → MH → Prop) = Q
  change MW KX1_shifted Q 0 0 (pcA pgX1_shifted 0) [(0, (2, ((o : Nat) : Int))), (1, (2, ((v : Nat) : Int))), (2, (0, n)), (3, (0, s))] [] h
  refine hd_locI (i := 2) rfl (fun rn => ?_)
  refine hd_locI (i := 3) rfl (fun rs => ?_)
  have nx_o : ∀ qq ∈ ([(o, W), (v, V)] : List (Nat × Nat)), ¬ o + 1 = qq.1 := fun qq hq => by
    simp only [List.mem_cons, List.not_mem_nil, or_false] at hq
    rcases hq with rfl | rfl <;> (dsimp only; omega)
  have Pb : 1 ≤ P ∧ P ≤ 536870912 := by
    rw [eP]
    have a := (p2_b (n := s.toNat) (by omega)).1
    have b := pmono (b := 2) (by decide) (show s.toNat ≤ 29 by omega)
    have c : (2 : Int) ^ 29 = 536870912 := by decide
    omega
  refine hd_lpush (z := 0) pkX1_shifted rfl ?_
  refine hd_lstore pkX1_shifted rfl rfl ?_
  change MW _ _ _ _ _ [(4, (1, 0)), (0, (2, ((o : Nat) : Int))), (1, (2, ((v : Nat) : Int))), (2, (0, n)), (3, (0, s))] _ _
  refine hd_ipush (z := 0) pkX1_shifted rfl ?_
  refine hd_istore pkX1_shifted rfl rfl ?_
  change MW _ _ _ _ _ [(6, (0, 0)), (4, (1, 0)), (0, (2, ((o : Nat) : Int))), (1, (2, ((v : Nat) : Int))), (2, (0, n)), (3, (0, s))] _ _
  have lp4 : ∀ (N4 : Nat) (ca i : Int) (hI : MH), G1 [(o, W), (v, V)] hI → (Only [o + 1] h hI) → (0 ≤ i ∧ i ≤ n) → (0 ≤ ca ∧ ca < P) → (Dg1 (ga hI (o + 1)) 1099511627776) → (∀ j : Int, i ≤ j → ga hI (v + 1) j = ga h (v + 1) j) → (∀ j : Int, i ≤ j → ga hI (o + 1) j = ga h (o + 1) j) → (nv1 (ga hI (o + 1)) i.toNat + ca * 1073741824 ^ i.toNat = 0 + P * nv1 (ga h (v + 1)) i.toNat) → n - i < (N4 : Int) → MW KX1_shifted Q 0 0 (pcA pgX1_shifted 4) [(0, (2, ((o : Nat) : Int))), (1, (2, ((v : Nat) : Int))), (2, (0, n)), (3, (0, s)), (4, (1, ca)), (6, (0, i))] [] hI := by
    intro N4
    induction N4 with
    | zero => intro ca i hI g4 hO i0 cb dg up uo eq hm4; exfalso; omega
    | succ N4 ih4 =>
      intro ca i hI g4 hO i0 cb dg up uo eq hm4
      refine hd_iload pkX1_shifted rfl rfl ?_
      refine hd_iload pkX1_shifted rfl rfl ?_
      refine hd_ic_ge pkX1_shifted rfl (fun c1 => ?_) (fun c1 => ?_)
      · skip
        refine hd_lload pkX1_shifted rfl rfl ?_
        refine hd_l2i pkX1_shifted rfl (by omega) ?_
        refine hd_iret pkX1_shifted rfl ?_
        subst eQ
        have ei : i = n := by omega
        subst ei
        rw [Int.zero_add] at eq
        exact ⟨rfl, rfl, cb, hO, g4, dg, eq, uo⟩
      · skip
        refine hd_aload pkX1_shifted rfl rfl (Int.natCast_nonneg _) ?_
        refine hd_getR (n := v + 1) pkX1_shifted rfl (g4.ob 1 rfl).1 (g4.ob 1 rfl).2.1 (g4.rf 1 rfl) ?_
        refine hd_iload pkX1_shifted rfl rfl ?_
        refine hd_iald (n := V) pkX1_shifted rfl (g4.ar 1 rfl) (by omega) (by omega) (fun v2 ev2 rv2 => ?_)
        obtain ⟨x9, qv2⟩ : ∃ x : Int, x = v2 := ⟨_, rfl⟩
        have xv : x9 = ga h (v + 1) i := (qv2.trans ev2).trans (up i (Int.le_refl _))
        have xb : 0 ≤ x9 ∧ x9 ≤ 1073741823 := by rw [xv]; exact dv i (by omega) (by omega)
        have xP : 0 ≤ x9 * P ∧ x9 * P ≤ 1073741823 * P := ⟨Int.mul_nonneg xb.1 (by omega), Int.mul_le_mul_of_nonneg_right xb.2 (by omega)⟩
        subst qv2
        refine hd_i2l pkX1_shifted rfl ?_
        refine hd_iload pkX1_shifted rfl rfl ?_
        refine hd_lshl (v := (x9 * P)) pkX1_shifted rfl (by rw [eP]; exact h_lshlv (by omega) xb.1 (by rw [← eP]; omega)) ?_
        refine hd_lload pkX1_shifted rfl rfl ?_
        refine hd_lor (v := (x9 * P + ca)) pkX1_shifted rfl (by exact (h_lor (x := ca) (y := x9 * P) (z := x9) (k := s.toNat) (by rw [← eP]; omega) xb.1 (by rw [← eP, Int.mul_comm]) (by omega)).2) ?_
        generalize et9 : (x9 * P + ca) = t9
        refine hd_lstore pkX1_shifted rfl rfl ?_
        change MW _ _ _ _ _ [(7, (1, t9)), (0, (2, ((o : Nat) : Int))), (1, (2, ((v : Nat) : Int))), (2, (0, n)), (3, (0, s)), (4, (1, ca)), (6, (0, i))] _ _
        refine hd_aload pkX1_shifted rfl rfl (Int.natCast_nonneg _) ?_
        refine hd_getR (n := o + 1) pkX1_shifted rfl (g4.ob 0 rfl).1 (g4.ob 0 rfl).2.1 (g4.rf 0 rfl) ?_
        refine hd_iload pkX1_shifted rfl rfl ?_
        refine hd_lload pkX1_shifted rfl rfl ?_
        refine hd_lpush (z := 1073741823) pkX1_shifted rfl ?_
        refine hd_land (v := (t9 % 1073741824)) pkX1_shifted rfl (by exact h_and30 _) ?_
        refine hd_l2i pkX1_shifted rfl (by omega) ?_
        refine hd_iast (n := W) pkX1_shifted rfl (g4.ar 0 rfl) (by omega) (by omega) (by omega) (fun hh3 ehh3 => ?_)
        have ghh3 : G1 [(o, W), (v, V)] hh3 := by rw [ehh3]; exact g4.set (by omega) (fun qq hq w => absurd w (nx_o qq hq))
        have o2 : Only [o + 1] h hh3 := by rw [ehh3]; exact hO.set List.mem_cons_self
        have f2 : ∀ j : Int, 0 ≤ j → ga hh3 (o + 1) j = if j = i then t9 % 1073741824 else ga hI (o + 1) j := fun j a => by rw [ehh3]; exact ga_sa _ _ _ (by omega) a
        have u2 : ∀ j : Int, i < j → ga hh3 (v + 1) j = ga hI (v + 1) j := fun j l9 => by
          by_cases q : v + 1 = o + 1
          · rw [q, f2 j (by omega), if_neg (by omega)]
          · rw [ehh3]; exact ga_ne _ _ _ _ q j
        refine hd_lload pkX1_shifted rfl rfl ?_
        refine hd_ipush (z := 30) pkX1_shifted rfl ?_
        refine hd_lshr (v := (t9 / 1073741824)) pkX1_shifted rfl (by exact h_shr30 (by omega)) ?_
        refine hd_lstore pkX1_shifted rfl rfl ?_
        change MW _ _ _ _ _ [(4, (1, (t9 / 1073741824))), (7, (1, t9)), (0, (2, ((o : Nat) : Int))), (1, (2, ((v : Nat) : Int))), (2, (0, n)), (3, (0, s)), (6, (0, i))] _ _
        refine hd_iinc (z := 1) pkX1_shifted rfl rfl (by omega) rfl ?_
        change MW _ _ _ _ _ [(6, (0, (i + 1))), (4, (1, (t9 / 1073741824))), (7, (1, t9)), (0, (2, ((o : Nat) : Int))), (1, (2, ((v : Nat) : Int))), (2, (0, n)), (3, (0, s))] _ _
        refine hd_goto pkX1_shifted rfl ?_
        refine m_sub [(0, (2, ((o : Nat) : Int))), (1, (2, ((v : Nat) : Int))), (2, (0, n)), (3, (0, s)), (4, (1, (t9 / 1073741824))), (6, (0, (i + 1)))] (List.forall_mem_cons.mpr ⟨rfl, List.forall_mem_cons.mpr ⟨rfl, List.forall_mem_cons.mpr ⟨rfl, List.forall_mem_cons.mpr ⟨rfl, List.forall_mem_cons.mpr ⟨rfl, List.forall_mem_cons.mpr ⟨rfl, fun _ h => absurd h List.not_mem_nil⟩⟩⟩⟩⟩⟩) ?_
        refine ih4  ((t9 / 1073741824)) ((i + 1)) hh3 ghh3 ?_ ?_ ?_ ?_ ?_ ?_ ?_ ?_
        · exact o2
        · omega
        · omega
        · intro j a b
          rw [f2 j a]
          split
          · omega
          · exact dg j a b
        · intro j a
          rw [u2 j (by omega)]
          exact up j (by omega)
        · intro j a
          rw [f2 j (by omega), if_neg (by omega)]
          exact uo j (by omega)
        · have z := row1 (d := 0) (a := x9) (l := P) (b := t9 % 1073741824) (t := t9 / 1073741824) eq (by omega)
          rw [show (i + 1).toNat = i.toNat + 1 by omega]
          show nv1 (ga hh3 (o + 1)) i.toNat + ga hh3 (o + 1) (i.toNat : Int) * 1073741824 ^ i.toNat + _ = 0 + P * (nv1 (ga h (v + 1)) i.toNat + ga h (v + 1) (i.toNat : Int) * 1073741824 ^ i.toNat)
          rw [show (i.toNat : Int) = i by omega, f2 i (by omega), if_pos rfl, ← xv, nv1_cg (f := ga hh3 (o + 1)) (g := ga hI (o + 1)) (fun j a b => by rw [f2 j a, if_neg (by omega)])]
          rw [Int.zero_mul, Int.add_zero] at z
          exact z
        · omega
  refine m_sub [(0, (2, ((o : Nat) : Int))), (1, (2, ((v : Nat) : Int))), (2, (0, n)), (3, (0, s)), (4, (1, 0)), (6, (0, 0))] (List.forall_mem_cons.mpr ⟨rfl, List.forall_mem_cons.mpr ⟨rfl, List.forall_mem_cons.mpr ⟨rfl, List.forall_mem_cons.mpr ⟨rfl, List.forall_mem_cons.mpr ⟨rfl, List.forall_mem_cons.mpr ⟨rfl, fun _ h => absurd h List.not_mem_nil⟩⟩⟩⟩⟩⟩) ?_
  refine lp4 ((n - (0)) + 1).toNat (0) (0) h g ?_ ?_ ?_ ?_ ?_ ?_ ?_ ?_
  · exact Only.refl _ _
  · omega
  · omega
  · exact d0
  · intro j _
    rfl
  · intro j _
    rfl
  · show (0 : Int) + 0 * _ = 0 + P * 0
    rw [Int.zero_mul, Int.mul_zero]
  · omega
set_option maxRecDepth 20000 in
set_option maxHeartbeats 8000000 in
theorem h_X1_quotientLimb {h : MH} {o W s V : Nat} (o4 : 3 ≤ o) (W9 : W ≤ 1000) (s4 : 3 ≤ s) (V9 : V ≤ 1000) {n j fi : Int} (os : o + 1 < s ∨ s + 1 < o) (nb : 1 ≤ n ∧ n ≤ (V : Int)) (jb : 0 ≤ j ∧ j + n < (W : Int)) (d0 : Dg1 (ga h (o + 1)) 1099511627776) (ds : Dg1 (ga h (s + 1)) 1099511627776) (efi : fi = ga h (s + 1) (n - 1)) (nrm : 536870912 ≤ fi) (rs : (uv1 (ga h (o + 1)) j (n.toNat + 1)) < (nv1 (ga h (s + 1)) n.toNat) * 1073741824) (g : G1 [(o, W), (s, V)] h) : MCal KX1_quotientLimb yX1_quotientLimb 0 0 [(2, ((o : Nat) : Int)), (2, ((s : Nat) : Int)), (0, n), (0, j)] h (mRI fun v h' => v = (uv1 (ga h (o + 1)) j (n.toNat + 1)) / (nv1 (ga h (s + 1)) n.toNat) ∧ (0 ≤ v ∧ v ≤ 1073741823) ∧ Only [o + 1] h h' ∧ G1 [(o, W), (s, V)] h' ∧ Dg1 (ga h' (o + 1)) 1099511627776 ∧ (∀ y : Int, 0 ≤ y → (y < j ∨ j + n < y) → ga h' (o + 1) y = ga h (o + 1) y) ∧ uv1 (ga h' (o + 1)) j n.toNat = (uv1 (ga h (o + 1)) j (n.toNat + 1)) % (nv1 (ga h (s + 1)) n.toNat) ∧ ga h' (o + 1) (j + n) = 0) := by
  refine MCal.ofMW (Or.inl rfl) ⟨cp_X1, rfl⟩ (Nat.le_of_ble_eq_true rfl) ?_
  generalize eQ : (mRI fun v h' => v = (uv1 (ga h (o + 1)) j (n.toNat + 1)) / (nv1 (ga h (s + 1)) n.toNat) ∧ (0 ≤ v ∧ v ≤ 1073741823) ∧ Only [o + 1] h h' ∧ G1 [(o, W), (s, V)] h' ∧ Dg1 (ga h' (o + 1)) 1099511627776 ∧ (∀ y : Int, 0 ≤ y → (y < j ∨ j + n < y) → ga h' (o + 1) y = ga h (o + 1) y) ∧ uv1 (ga h' (o + 1)) j n.toNat = (uv1 (ga h (o + 1)) j (n.toNat + 1)) % (nv1 (ga h (s + 1)) n.toNat) ∧ ga h' (o + 1) (j + n) = 0 : MO → MH → Prop) = Q
  change MW KX1_quotientLimb Q 0 0 (pcA pgX1_quotientLimb 0) [(0, (2, ((o : Nat) : Int))), (1, (2, ((s : Nat) : Int))), (2, (0, n)), (3, (0, j))] [] h
  refine hd_locI (i := 2) rfl (fun rn => ?_)
  refine hd_locI (i := 3) rfl (fun rj => ?_)
  have nx_o : ∀ qq ∈ ([(o, W), (s, V)] : List (Nat × Nat)), ¬ o + 1 = qq.1 := fun qq hq => by
    simp only [List.mem_cons, List.not_mem_nil, or_false] at hq
    rcases hq with rfl | rfl <;> (dsimp only; omega)
  have fib : fi ≤ 1073741823 := by rw [efi]; exact (ds (n - 1) (by omega) (by omega)).2
  refine hd_aload pkX1_quotientLimb rfl rfl (Int.natCast_nonneg _) ?_
  refine hd_getR (n := s + 1) pkX1_quotientLimb rfl (g.ob 1 rfl).1 (g.ob 1 rfl).2.1 (g.rf 1 rfl) ?_
  refine hd_iload pkX1_quotientLimb rfl rfl ?_
  refine hd_ipush (z := 1) pkX1_quotientLimb rfl ?_
  refine hd_isub pkX1_quotientLimb rfl (by omega) ?_
  refine hd_iald (n := V) pkX1_quotientLimb rfl (g.ar 1 rfl) (by omega) (by omega) (fun v1 ev1 rv1 => ?_)
  have qv1 : fi = v1 := by rw [ev1]; exact efi
  subst qv1
  refine hd_i2l pkX1_quotientLimb rfl ?_
  refine hd_lstore pkX1_quotientLimb rfl rfl ?_
  change MW _ _ _ _ _ [(4, (1, fi)), (0, (2, ((o : Nat) : Int))), (1, (2, ((s : Nat) : Int))), (2, (0, n)), (3, (0, j))] _ _
  have cut20 : ∀ (se : Int), ((1 < n → se = ga h (s + 1) (n - 2)) ∧ (n = 1 → se = 0)) → (0 ≤ se ∧ se ≤ 1073741823) → MW KX1_quotientLimb Q 0 0 (pcA pgX1_quotientLimb 20) [(0, (2, ((o : Nat) : Int))), (1, (2, ((s : Nat) : Int))), (2, (0, n)), (3, (0, j)), (4, (1, fi))] [(1, se)] h := by
    intro se sev seb
    refine hd_lstore pkX1_quotientLimb rfl rfl ?_
    change MW _ _ _ _ _ [(6, (1, se)), (0, (2, ((o : Nat) : Int))), (1, (2, ((s : Nat) : Int))), (2, (0, n)), (3, (0, j)), (4, (1, fi))] _ _
    have cut35 : ∀ (th : Int), ((1 < n → th = ga h (o + 1) (j + (n - 2))) ∧ (n = 1 → th = 0)) → (0 ≤ th ∧ th ≤ 1073741823) → MW KX1_quotientLimb Q 0 0 (pcA pgX1_quotientLimb 35) [(0, (2, ((o : Nat) : Int))), (1, (2, ((s : Nat) : Int))), (2, (0, n)), (3, (0, j)), (4, (1, fi)), (6, (1, se))] [(1, th)] h := by
      intro th thv thb
      refine hd_lstore pkX1_quotientLimb rfl rfl ?_
      change MW _ _ _ _ _ [(8, (1, th)), (0, (2, ((o : Nat) : Int))), (1, (2, ((s : Nat) : Int))), (2, (0, n)), (3, (0, j)), (4, (1, fi)), (6, (1, se))] _ _
      refine hd_aload pkX1_quotientLimb rfl rfl (Int.natCast_nonneg _) ?_
      refine hd_getR (n := o + 1) pkX1_quotientLimb rfl (g.ob 0 rfl).1 (g.ob 0 rfl).2.1 (g.rf 0 rfl) ?_
      refine hd_iload pkX1_quotientLimb rfl rfl ?_
      refine hd_iload pkX1_quotientLimb rfl rfl ?_
      refine hd_iadd pkX1_quotientLimb rfl (by omega) ?_
      refine hd_iald (n := W) pkX1_quotientLimb rfl (g.ar 0 rfl) (by omega) (by omega) (fun v2 ev2 rv2 => ?_)
      obtain ⟨w1, qv2⟩ : ∃ x : Int, x = v2 := ⟨_, rfl⟩
      have ew1 : w1 = ga h (o + 1) (j + n) := qv2.trans ev2
      have w1b : 0 ≤ w1 ∧ w1 ≤ 1073741823 := by rw [ew1]; exact d0 (j + n) (by omega) (by omega)
      subst qv2
      refine hd_i2l pkX1_quotientLimb rfl ?_
      refine hd_lpush (z := 1073741824) pkX1_quotientLimb rfl ?_
      refine hd_lmul pkX1_quotientLimb rfl (by omega) ?_
      refine hd_aload pkX1_quotientLimb rfl rfl (Int.natCast_nonneg _) ?_
      refine hd_getR (n := o + 1) pkX1_quotientLimb rfl (g.ob 0 rfl).1 (g.ob 0 rfl).2.1 (g.rf 0 rfl) ?_
      refine hd_iload pkX1_quotientLimb rfl rfl ?_
      refine hd_iload pkX1_quotientLimb rfl rfl ?_
      refine hd_iadd pkX1_quotientLimb rfl (by omega) ?_
      refine hd_ipush (z := 1) pkX1_quotientLimb rfl ?_
      refine hd_isub pkX1_quotientLimb rfl (by omega) ?_
      refine hd_iald (n := W) pkX1_quotientLimb rfl (g.ar 0 rfl) (by omega) (by omega) (fun v3 ev3 rv3 => ?_)
      obtain ⟨w2, qv3⟩ : ∃ x : Int, x = v3 := ⟨_, rfl⟩
      have ew2 : w2 = ga h (o + 1) (j + (n - 1)) := by rw [qv3, ev3, show j + n - 1 = j + (n - 1) by omega]
      have w2b : 0 ≤ w2 ∧ w2 ≤ 1073741823 := by rw [ew2]; exact d0 (j + (n - 1)) (by omega) (by omega)
      subst qv3
      refine hd_i2l pkX1_quotientLimb rfl ?_
      refine hd_ladd pkX1_quotientLimb rfl (by omega) ?_
      generalize ehd : ((w1 * 1073741824) + w2) = hd
      have KD := kd_all (sf := ga h (s + 1)) (f := fun x => ga h (o + 1) (j + x)) (n := n.toNat) (fi := fi) (se := se) (th := th) (u := hd) (by omega) (fun x a b => ds x a (by omega)) (fun x a b => d0 (j + x) (by omega) (by omega)) (by rw [show ((n.toNat : Nat) : Int) = n by omega]; exact efi) (fun w => by rw [show ((n.toNat : Nat) : Int) = n by omega]; exact sev.1 (by omega)) (fun w => sev.2 (by omega)) (fun w => by rw [show ((n.toNat : Nat) : Int) = n by omega]; exact thv.1 (by omega)) (fun w => thv.2 (by omega)) (by rw [show ((n.toNat : Nat) : Int) = n by omega, ← ehd, ew1, ew2]) nrm rs
      obtain ⟨S0, qu, qB, q0, uf, kd1, kd2, kd3⟩ := KD
      have eR : nv1 (fun x => ga h (o + 1) (j + x)) (n.toNat + 1) = (uv1 (ga h (o + 1)) j (n.toNat + 1)) := rfl
      rw [eR] at qu qB q0 kd1 kd2 kd3
      obtain ⟨Q9, eQ9⟩ : ∃ x : Int, x = (uv1 (ga h (o + 1)) j (n.toNat + 1)) / (nv1 (ga h (s + 1)) n.toNat) := ⟨_, rfl⟩
      rw [← eQ9] at qu qB q0 kd1 kd2 kd3
      refine hd_lstore pkX1_quotientLimb rfl rfl ?_
      change MW _ _ _ _ _ [(10, (1, hd)), (8, (1, th)), (0, (2, ((o : Nat) : Int))), (1, (2, ((s : Nat) : Int))), (2, (0, n)), (3, (0, j)), (4, (1, fi)), (6, (1, se))] _ _
      refine hd_lload pkX1_quotientLimb rfl rfl ?_
      refine hd_lload pkX1_quotientLimb rfl rfl ?_
      refine hd_ldiv pkX1_quotientLimb rfl (by omega) (by have e9 := tdiv12 (x := hd) (y := fi) (by omega) (by omega); omega) ?_
      generalize egu : (Int.tdiv hd fi) = gu
      rw [(tdiv12 (by omega) (by omega)).1] at egu
      refine hd_lstore pkX1_quotientLimb rfl rfl ?_
      change MW _ _ _ _ _ [(12, (1, gu)), (10, (1, hd)), (8, (1, th)), (0, (2, ((o : Nat) : Int))), (1, (2, ((s : Nat) : Int))), (2, (0, n)), (3, (0, j)), (4, (1, fi)), (6, (1, se))] _ _
      refine hd_lload pkX1_quotientLimb rfl rfl ?_
      refine hd_lload pkX1_quotientLimb rfl rfl ?_
      refine hd_lrem pkX1_quotientLimb rfl (by omega) (by have e9 := emod_of (x := hd) (y := fi) (by omega) (by omega); omega) ?_
      generalize ele : (Int.tmod hd fi) = le
      rw [(emod_of (by omega) (by omega)).1] at ele
      have em := Int.emod_add_mul_ediv hd fi
      rw [ele, egu] at em
      have leb : 0 ≤ le ∧ le < fi := by rw [← ele]; exact ⟨Int.emod_nonneg _ (by omega), Int.emod_lt_of_pos _ (by omega)⟩
      have gl : gu * fi + le = hd := by rw [Int.mul_comm]; omega
      have gu0 : 0 ≤ gu := by rw [← egu]; exact Int.ediv_nonneg (by omega) (by omega)
      have quB : Q9 ≤ gu := by
        by_cases w : Q9 ≤ gu
        · exact w
        · exfalso
          have := Int.mul_le_mul_of_nonneg_right (show gu + 1 ≤ Q9 by omega) (show 0 ≤ fi by omega)
          rw [Int.add_mul, Int.one_mul] at this
          omega
      have guB : gu ≤ 1073741825 := by
        by_cases w : gu ≤ 1073741825
        · exact w
        · exfalso
          have := Int.mul_le_mul_of_nonneg_right (show 1073741826 ≤ gu by omega) (show 0 ≤ fi by omega)
          omega
      refine hd_lstore pkX1_quotientLimb rfl rfl ?_
      change MW _ _ _ _ _ [(14, (1, le)), (12, (1, gu)), (10, (1, hd)), (8, (1, th)), (0, (2, ((o : Nat) : Int))), (1, (2, ((s : Nat) : Int))), (2, (0, n)), (3, (0, j)), (4, (1, fi)), (6, (1, se))] _ _
      have cut97 : ∀ (gf : Int), (Q9 ≤ gf ∧ gf ≤ Q9 + 1 ∧ 0 ≤ gf ∧ gf ≤ 1073741823) → MW KX1_quotientLimb Q 0 0 (pcA pgX1_quotientLimb 97) [(0, (2, ((o : Nat) : Int))), (1, (2, ((s : Nat) : Int))), (2, (0, n)), (3, (0, j)), (12, (1, gf))] [] h := by
        intro gf gfb
        refine hd_lpush (z := 0) pkX1_quotientLimb rfl ?_
        refine hd_lstore pkX1_quotientLimb rfl rfl ?_
        change MW _ _ _ _ _ [(16, (1, 0)), (0, (2, ((o : Nat) : Int))), (1, (2, ((s : Nat) : Int))), (2, (0, n)), (3, (0, j)), (12, (1, gf))] _ _
        refine hd_ipush (z := 0) pkX1_quotientLimb rfl ?_
        refine hd_istore pkX1_quotientLimb rfl rfl ?_
        change MW _ _ _ _ _ [(18, (0, 0)), (16, (1, 0)), (0, (2, ((o : Nat) : Int))), (1, (2, ((s : Nat) : Int))), (2, (0, n)), (3, (0, j)), (12, (1, gf))] _ _
        have lp101 : ∀ (N101 : Nat) (ca i : Int) (hI : MH), G1 [(o, W), (s, V)] hI → (Only [o + 1] h hI) → (0 ≤ i ∧ i ≤ n) → (-1073741824 ≤ ca ∧ ca ≤ 0) → (Dg1 (ga hI (o + 1)) 1099511627776) → (∀ x : Int, 0 ≤ x → (x < j ∨ j + i ≤ x) → ga hI (o + 1) x = ga h (o + 1) x) → (uv1 (ga hI (o + 1)) j i.toNat + ca * 1073741824 ^ i.toNat = uv1 (ga h (o + 1)) j i.toNat + -gf * nv1 (ga h (s + 1)) i.toNat) → n - i < (N101 : Int) → MW KX1_quotientLimb Q 0 0 (pcA pgX1_quotientLimb 101) [(0, (2, ((o : Nat) : Int))), (1, (2, ((s : Nat) : Int))), (2, (0, n)), (3, (0, j)), (12, (1, gf)), (16, (1, ca)), (18, (0, i))] [] hI := by
          intro N101
          induction N101 with
          | zero => intro ca i hI g101 hO i0 cb dg un eq hm101; exfalso; omega
          | succ N101 ih101 =>
            intro ca i hI g101 hO i0 cb dg un eq hm101
            refine hd_iload pkX1_quotientLimb rfl rfl ?_
            refine hd_iload pkX1_quotientLimb rfl rfl ?_
            refine hd_ic_ge pkX1_quotientLimb rfl (fun c4 => ?_) (fun c4 => ?_)
            · skip
              refine hd_aload pkX1_quotientLimb rfl rfl (Int.natCast_nonneg _) ?_
              refine hd_getR (n := o + 1) pkX1_quotientLimb rfl (g101.ob 0 rfl).1 (g101.ob 0 rfl).2.1 (g101.rf 0 rfl) ?_
              refine hd_iload pkX1_quotientLimb rfl rfl ?_
              refine hd_iload pkX1_quotientLimb rfl rfl ?_
              refine hd_iadd pkX1_quotientLimb rfl (by omega) ?_
              refine hd_iald (n := W) pkX1_quotientLimb rfl (g101.ar 0 rfl) (by omega) (by omega) (fun v5 ev5 rv5 => ?_)
              have ein : i = n := by omega
              rw [ein] at un eq
              obtain ⟨w3, qv5⟩ : ∃ x : Int, x = v5 := ⟨_, rfl⟩
              have ew3 : w3 = w1 := by rw [qv5, ev5, ew1]; exact un (j + n) (by omega) (by omega)
              subst qv5
              refine hd_i2l pkX1_quotientLimb rfl ?_
              refine hd_lload pkX1_quotientLimb rfl rfl ?_
              refine hd_ladd pkX1_quotientLimb rfl (by omega) ?_
              generalize etp : (w3 + ca) = tp
              obtain ⟨M9, eM9⟩ : ∃ x : Int, x = 1073741824 ^ n.toNat := ⟨_, rfl⟩
              have sSM := nv1_b (f := ga h (s + 1)) (n := n.toNat) (fun x a b => ds x a (by omega))
              have pP := nv1_b (f := fun x => ga hI (o + 1) (j + x)) (n := n.toNat) (fun x a b => dg (j + x) (by omega) (by omega))
              have eRn : (uv1 (ga h (o + 1)) j (n.toNat + 1)) = uv1 (ga h (o + 1)) j n.toNat + w1 * M9 := by
                show uv1 (ga h (o + 1)) j n.toNat + ga h (o + 1) (j + (n.toNat : Int)) * _ = _
                rw [show (n.toNat : Int) = n by omega, ← ew1, eM9]
              rw [← eM9] at sSM pP eq
              obtain ⟨R9, eR9⟩ : ∃ x : Int, x = (uv1 (ga h (o + 1)) j (n.toNat + 1)) := ⟨_, rfl⟩
              obtain ⟨S9, eS9⟩ : ∃ x : Int, x = (nv1 (ga h (s + 1)) n.toNat) := ⟨_, rfl⟩
              rw [← eR9] at eRn
              rw [← eR9, ← eS9] at eQ9
              rw [← eS9] at S0 eq sSM
              have q1 := Int.ediv_mul_le R9 (show S9 ≠ 0 by omega)
              have q2 := Int.lt_ediv_add_one_mul_self R9 S0
              rw [← eQ9] at q1 q2
              rw [Int.add_mul, Int.one_mul] at q2
              obtain ⟨P9, eP9⟩ : ∃ x : Int, x = uv1 (ga hI (o + 1)) j n.toNat := ⟨_, rfl⟩
              have pP : 0 ≤ P9 ∧ P9 < M9 := by rw [eP9]; exact pP
              rw [← eP9] at eq
              have KS := kd_sub (Q := Q9) (g := gf) (S := S9) (R := R9) (P := P9) (top := tp) (M := M9) q1 q2 gfb.1 gfb.2.1 S0 (by omega) pP.1 pP.2 (by rw [eRn, ← etp, ew3, Int.add_mul, Int.neg_mul] at *; omega)
              have eRm : R9 % S9 = R9 - Q9 * S9 := by
                have a := Int.emod_add_mul_ediv R9 S9
                rw [← eQ9, Int.mul_comm] at a
                omega
              refine hd_lstore pkX1_quotientLimb rfl rfl ?_
              change MW _ _ _ _ _ [(18, (1, tp)), (0, (2, ((o : Nat) : Int))), (1, (2, ((s : Nat) : Int))), (2, (0, n)), (3, (0, j)), (12, (1, gf)), (16, (1, ca))] _ _
              have cut199 : ∀ (gq tq : Int) (hK : MH), G1 [(o, W), (s, V)] hK → (gq = Q9) → (tq = 0) → (Only [o + 1] h hK) → (Dg1 (ga hK (o + 1)) 1099511627776) → (∀ y : Int, 0 ≤ y → (y < j ∨ j + n ≤ y) → ga hK (o + 1) y = ga h (o + 1) y) → (uv1 (ga hK (o + 1)) j n.toNat = R9 % S9) → MW KX1_quotientLimb Q 0 0 (pcA pgX1_quotientLimb 199) [(0, (2, ((o : Nat) : Int))), (1, (2, ((s : Nat) : Int))), (2, (0, n)), (3, (0, j)), (12, (1, gq)), (18, (1, tq))] [] hK := by
                intro gq tq hK gc199 gqv tqv hO3 dg3 un3 rm3
                refine hd_aload pkX1_quotientLimb rfl rfl (Int.natCast_nonneg _) ?_
                refine hd_getR (n := o + 1) pkX1_quotientLimb rfl (gc199.ob 0 rfl).1 (gc199.ob 0 rfl).2.1 (gc199.rf 0 rfl) ?_
                refine hd_iload pkX1_quotientLimb rfl rfl ?_
                refine hd_iload pkX1_quotientLimb rfl rfl ?_
                refine hd_iadd pkX1_quotientLimb rfl (by omega) ?_
                refine hd_lload pkX1_quotientLimb rfl rfl ?_
                refine hd_lpush (z := 1073741823) pkX1_quotientLimb rfl ?_
                refine hd_land (v := (tq % 1073741824)) pkX1_quotientLimb rfl (by exact h_and30 _) ?_
                refine hd_l2i pkX1_quotientLimb rfl (by omega) ?_
                refine hd_iast (n := W) pkX1_quotientLimb rfl (gc199.ar 0 rfl) (by omega) (by omega) (by omega) (fun hh6 ehh6 => ?_)
                have ghh6 : G1 [(o, W), (s, V)] hh6 := by rw [ehh6]; exact gc199.set (by omega) (fun qq hq w => absurd w (nx_o qq hq))
                have o8 : Only [o + 1] h hh6 := by rw [ehh6]; exact hO3.set List.mem_cons_self
                have f8 : ∀ y : Int, 0 ≤ y → ga hh6 (o + 1) y = if y = j + n then tq % 1073741824 else ga hK (o + 1) y := fun y a => by rw [ehh6]; exact ga_sa _ _ _ (by omega) a
                refine hd_lload pkX1_quotientLimb rfl rfl ?_
                refine hd_l2i pkX1_quotientLimb rfl (by omega) ?_
                refine hd_iret pkX1_quotientLimb rfl ?_
                subst eQ
                refine ⟨rfl, rfl, gqv.trans (by rw [eQ9, eR9, eS9]), ⟨by show 0 ≤ gq; omega, by show gq ≤ _; omega⟩, o8, ghh6, fun y a b => ?_, fun y w a => ?_, ?_, ?_⟩
                · rw [f8 y a]
                  split
                  · omega
                  · exact dg3 y a b
                · rw [f8 y w, if_neg (by omega)]
                  exact un3 y w (by omega)
                · rw [show uv1 (ga hh6 (o + 1)) j n.toNat = uv1 (ga hK (o + 1)) j n.toNat from nv1_cg fun y a b => by rw [f8 (j + y) (by omega), if_neg (by omega)], rm3, eR9, eS9]
                · rw [f8 (j + n) (by omega), if_pos rfl, tqv]
                  rfl
              refine hd_lload pkX1_quotientLimb rfl rfl ?_
              refine hd_lpush (z := 0) pkX1_quotientLimb rfl ?_
              refine hd_lc_ge pkX1_quotientLimb rfl (fun c7 => ?_) (fun c7 => ?_)
              · skip
                refine m_sub [(0, (2, ((o : Nat) : Int))), (1, (2, ((s : Nat) : Int))), (2, (0, n)), (3, (0, j)), (12, (1, gf)), (18, (1, tp))] (List.forall_mem_cons.mpr ⟨rfl, List.forall_mem_cons.mpr ⟨rfl, List.forall_mem_cons.mpr ⟨rfl, List.forall_mem_cons.mpr ⟨rfl, List.forall_mem_cons.mpr ⟨rfl, List.forall_mem_cons.mpr ⟨rfl, fun _ h => absurd h List.not_mem_nil⟩⟩⟩⟩⟩⟩) ?_
                refine cut199 (gf) (tp) hI g101 ?_ ?_ ?_ ?_ ?_ ?_
                · omega
                · omega
                · exact hO
                · exact dg
                · exact un
                · rw [← eP9, eRm]
                  omega
              · skip
                refine hd_lload pkX1_quotientLimb rfl rfl ?_
                refine hd_lpush (z := 1) pkX1_quotientLimb rfl ?_
                refine hd_lsub pkX1_quotientLimb rfl (by omega) ?_
                refine hd_lstore pkX1_quotientLimb rfl rfl ?_
                change MW _ _ _ _ _ [(12, (1, (gf - 1))), (18, (1, tp)), (0, (2, ((o : Nat) : Int))), (1, (2, ((s : Nat) : Int))), (2, (0, n)), (3, (0, j)), (16, (1, ca))] _ _
                refine hd_lpush (z := 0) pkX1_quotientLimb rfl ?_
                refine hd_lstore pkX1_quotientLimb rfl rfl ?_
                change MW _ _ _ _ _ [(16, (1, 0)), (12, (1, (gf - 1))), (18, (1, tp)), (0, (2, ((o : Nat) : Int))), (1, (2, ((s : Nat) : Int))), (2, (0, n)), (3, (0, j))] _ _
                refine hd_ipush (z := 0) pkX1_quotientLimb rfl ?_
                refine hd_istore pkX1_quotientLimb rfl rfl ?_
                change MW _ _ _ _ _ [(20, (0, 0)), (16, (1, 0)), (12, (1, (gf - 1))), (18, (1, tp)), (0, (2, ((o : Nat) : Int))), (1, (2, ((s : Nat) : Int))), (2, (0, n)), (3, (0, j))] _ _
                have lp160 : ∀ (N160 : Nat) (cc x : Int) (hJ : MH), G1 [(o, W), (s, V)] hJ → (Only [o + 1] h hJ) → (0 ≤ x ∧ x ≤ n) → (0 ≤ cc ∧ cc ≤ 1) → (Dg1 (ga hJ (o + 1)) 1099511627776) → (∀ y : Int, 0 ≤ y → (y < j ∨ j + x ≤ y) → ga hJ (o + 1) y = ga hI (o + 1) y) → (uv1 (ga hJ (o + 1)) j x.toNat + cc * 1073741824 ^ x.toNat = uv1 (ga hI (o + 1)) j x.toNat + 1 * nv1 (ga h (s + 1)) x.toNat) → n - x < (N160 : Int) → MW KX1_quotientLimb Q 0 0 (pcA pgX1_quotientLimb 160) [(0, (2, ((o : Nat) : Int))), (1, (2, ((s : Nat) : Int))), (2, (0, n)), (3, (0, j)), (12, (1, (gf - 1))), (16, (1, cc)), (18, (1, tp)), (20, (0, x))] [] hJ := by
                  intro N160
                  induction N160 with
                  | zero => intro cc x hJ g160 hO2 x0 ccb dg2 un2 eq2 hm160; exfalso; omega
                  | succ N160 ih160 =>
                    intro cc x hJ g160 hO2 x0 ccb dg2 un2 eq2 hm160
                    refine hd_iload pkX1_quotientLimb rfl rfl ?_
                    refine hd_iload pkX1_quotientLimb rfl rfl ?_
                    refine hd_ic_ge pkX1_quotientLimb rfl (fun c8 => ?_) (fun c8 => ?_)
                    · skip
                      refine hd_lload pkX1_quotientLimb rfl rfl ?_
                      refine hd_lload pkX1_quotientLimb rfl rfl ?_
                      refine hd_ladd pkX1_quotientLimb rfl (by omega) ?_
                      refine hd_lstore pkX1_quotientLimb rfl rfl ?_
                      change MW _ _ _ _ _ [(18, (1, (tp + cc))), (0, (2, ((o : Nat) : Int))), (1, (2, ((s : Nat) : Int))), (2, (0, n)), (3, (0, j)), (12, (1, (gf - 1))), (16, (1, cc)), (20, (0, x))] _ _
                      refine m_sub [(0, (2, ((o : Nat) : Int))), (1, (2, ((s : Nat) : Int))), (2, (0, n)), (3, (0, j)), (12, (1, (gf - 1))), (18, (1, (tp + cc)))] (List.forall_mem_cons.mpr ⟨rfl, List.forall_mem_cons.mpr ⟨rfl, List.forall_mem_cons.mpr ⟨rfl, List.forall_mem_cons.mpr ⟨rfl, List.forall_mem_cons.mpr ⟨rfl, List.forall_mem_cons.mpr ⟨rfl, fun _ h => absurd h List.not_mem_nil⟩⟩⟩⟩⟩⟩) ?_
                      refine cut199 ((gf - 1)) ((tp + cc)) hJ g160 ?_ ?_ ?_ ?_ ?_ ?_
                      · omega
                      · have exn : x = n := by omega
                        rw [exn] at eq2
                        rw [← eP9, ← eM9, ← eS9] at eq2
                        have pJ := nv1_b (f := fun y => ga hJ (o + 1) (j + y)) (n := n.toNat) (fun y a b => dg2 (j + y) (by omega) (by omega))
                        rw [← eM9] at pJ
                        have pJ : 0 ≤ uv1 (ga hJ (o + 1)) j n.toNat ∧ uv1 (ga hJ (o + 1)) j n.toNat < M9 := pJ
                        have cM : cc * M9 = 0 ∨ cc = 1 := by
                          have : cc = 0 ∨ cc = 1 := by omega
                          rcases this with w | w
                          · left; rw [w, Int.zero_mul]
                          · exact Or.inr w
                        have rS : R9 - Q9 * S9 < S9 := by omega
                        rcases cM with w | w
                        · omega
                        · omega
                      · exact hO2
                      · exact dg2
                      · intro y w a
                        rw [un2 y w (by omega)]
                        exact un y w a
                      · have exn : x = n := by omega
                        rw [exn] at eq2
                        rw [← eP9, ← eM9, ← eS9] at eq2
                        have pJ := nv1_b (f := fun y => ga hJ (o + 1) (j + y)) (n := n.toNat) (fun y a b => dg2 (j + y) (by omega) (by omega))
                        rw [← eM9] at pJ
                        have pJ : 0 ≤ uv1 (ga hJ (o + 1)) j n.toNat ∧ uv1 (ga hJ (o + 1)) j n.toNat < M9 := pJ
                        have cM : cc * M9 = 0 ∨ cc = 1 := by
                          have : cc = 0 ∨ cc = 1 := by omega
                          rcases this with w | w
                          · left; rw [w, Int.zero_mul]
                          · exact Or.inr w
                        have rS : R9 - Q9 * S9 < S9 := by omega
                        rw [eRm]
                        rcases cM with w | w
                        · omega
                        · rw [w, Int.one_mul] at eq2
                          omega
                    · skip
                      refine hd_lload pkX1_quotientLimb rfl rfl ?_
                      refine hd_aload pkX1_quotientLimb rfl rfl (Int.natCast_nonneg _) ?_
                      refine hd_getR (n := o + 1) pkX1_quotientLimb rfl (g160.ob 0 rfl).1 (g160.ob 0 rfl).2.1 (g160.rf 0 rfl) ?_
                      refine hd_iload pkX1_quotientLimb rfl rfl ?_
                      refine hd_iload pkX1_quotientLimb rfl rfl ?_
                      refine hd_iadd pkX1_quotientLimb rfl (by omega) ?_
                      refine hd_iald (n := W) pkX1_quotientLimb rfl (g160.ar 0 rfl) (by omega) (by omega) (fun v9 ev9 rv9 => ?_)
                      obtain ⟨u9, qv9⟩ : ∃ x : Int, x = v9 := ⟨_, rfl⟩
                      have uv9 : u9 = ga hI (o + 1) (j + x) := by rw [qv9, ev9, show x + j = j + x by omega]; exact un2 (j + x) (by omega) (by omega)
                      have ub9 : 0 ≤ u9 ∧ u9 ≤ 1073741823 := by rw [uv9]; exact dg (j + x) (by omega) (by omega)
                      subst qv9
                      refine hd_i2l pkX1_quotientLimb rfl ?_
                      refine hd_ladd pkX1_quotientLimb rfl (by omega) ?_
                      refine hd_aload pkX1_quotientLimb rfl rfl (Int.natCast_nonneg _) ?_
                      refine hd_getR (n := s + 1) pkX1_quotientLimb rfl (g160.ob 1 rfl).1 (g160.ob 1 rfl).2.1 (g160.rf 1 rfl) ?_
                      refine hd_iload pkX1_quotientLimb rfl rfl ?_
                      refine hd_iald (n := V) pkX1_quotientLimb rfl (g160.ar 1 rfl) (by omega) (by omega) (fun v10 ev10 rv10 => ?_)
                      obtain ⟨z9, qv10⟩ : ∃ x : Int, x = v10 := ⟨_, rfl⟩
                      have zv9 : z9 = ga h (s + 1) x := (qv10.trans ev10).trans (hO2.ga (by simp only [List.mem_cons, List.not_mem_nil, or_false, not_or]; omega) _)
                      have zb9 : 0 ≤ z9 ∧ z9 ≤ 1073741823 := by rw [zv9]; exact ds x (by omega) (by omega)
                      subst qv10
                      refine hd_i2l pkX1_quotientLimb rfl ?_
                      refine hd_ladd pkX1_quotientLimb rfl (by omega) ?_
                      generalize et8 : ((cc + u9) + z9) = t8
                      refine hd_lstore pkX1_quotientLimb rfl rfl ?_
                      change MW _ _ _ _ _ [(21, (1, t8)), (0, (2, ((o : Nat) : Int))), (1, (2, ((s : Nat) : Int))), (2, (0, n)), (3, (0, j)), (12, (1, (gf - 1))), (16, (1, cc)), (18, (1, tp)), (20, (0, x))] _ _
                      refine hd_aload pkX1_quotientLimb rfl rfl (Int.natCast_nonneg _) ?_
                      refine hd_getR (n := o + 1) pkX1_quotientLimb rfl (g160.ob 0 rfl).1 (g160.ob 0 rfl).2.1 (g160.rf 0 rfl) ?_
                      refine hd_iload pkX1_quotientLimb rfl rfl ?_
                      refine hd_iload pkX1_quotientLimb rfl rfl ?_
                      refine hd_iadd pkX1_quotientLimb rfl (by omega) ?_
                      refine hd_lload pkX1_quotientLimb rfl rfl ?_
                      refine hd_lpush (z := 1073741823) pkX1_quotientLimb rfl ?_
                      refine hd_land (v := (t8 % 1073741824)) pkX1_quotientLimb rfl (by exact h_and30 _) ?_
                      refine hd_l2i pkX1_quotientLimb rfl (by omega) ?_
                      refine hd_iast (n := W) pkX1_quotientLimb rfl (g160.ar 0 rfl) (by omega) (by omega) (by omega) (fun hh11 ehh11 => ?_)
                      have ghh11 : G1 [(o, W), (s, V)] hh11 := by rw [ehh11]; exact g160.set (by omega) (fun qq hq w => absurd w (nx_o qq hq))
                      have o6 : Only [o + 1] h hh11 := by rw [ehh11]; exact hO2.set List.mem_cons_self
                      have f6 : ∀ y : Int, 0 ≤ y → ga hh11 (o + 1) y = if y = j + x then t8 % 1073741824 else ga hJ (o + 1) y := fun y a => by rw [ehh11, show x + j = j + x by omega]; exact ga_sa _ _ _ (by omega) a
                      refine hd_lload pkX1_quotientLimb rfl rfl ?_
                      refine hd_ipush (z := 30) pkX1_quotientLimb rfl ?_
                      refine hd_lshr (v := (t8 / 1073741824)) pkX1_quotientLimb rfl (by exact h_shr30 (by omega)) ?_
                      refine hd_lstore pkX1_quotientLimb rfl rfl ?_
                      change MW _ _ _ _ _ [(16, (1, (t8 / 1073741824))), (21, (1, t8)), (0, (2, ((o : Nat) : Int))), (1, (2, ((s : Nat) : Int))), (2, (0, n)), (3, (0, j)), (12, (1, (gf - 1))), (18, (1, tp)), (20, (0, x))] _ _
                      refine hd_iinc (z := 1) pkX1_quotientLimb rfl rfl (by omega) rfl ?_
                      change MW _ _ _ _ _ [(20, (0, (x + 1))), (16, (1, (t8 / 1073741824))), (21, (1, t8)), (0, (2, ((o : Nat) : Int))), (1, (2, ((s : Nat) : Int))), (2, (0, n)), (3, (0, j)), (12, (1, (gf - 1))), (18, (1, tp))] _ _
                      refine hd_goto pkX1_quotientLimb rfl ?_
                      refine m_sub [(0, (2, ((o : Nat) : Int))), (1, (2, ((s : Nat) : Int))), (2, (0, n)), (3, (0, j)), (12, (1, (gf - 1))), (16, (1, (t8 / 1073741824))), (18, (1, tp)), (20, (0, (x + 1)))] (List.forall_mem_cons.mpr ⟨rfl, List.forall_mem_cons.mpr ⟨rfl, List.forall_mem_cons.mpr ⟨rfl, List.forall_mem_cons.mpr ⟨rfl, List.forall_mem_cons.mpr ⟨rfl, List.forall_mem_cons.mpr ⟨rfl, List.forall_mem_cons.mpr ⟨rfl, List.forall_mem_cons.mpr ⟨rfl, fun _ h => absurd h List.not_mem_nil⟩⟩⟩⟩⟩⟩⟩⟩) ?_
                      refine ih160  ((t8 / 1073741824)) ((x + 1)) hh11 ghh11 ?_ ?_ ?_ ?_ ?_ ?_ ?_
                      · exact o6
                      · omega
                      · omega
                      · intro y a b
                        rw [f6 y a]
                        split
                        · omega
                        · exact dg2 y a b
                      · intro y w a
                        rw [f6 y w, if_neg (by omega)]
                        exact un2 y w (by omega)
                      · have z := sum1 (x := u9) (y := z9) (w := 1) (b := t8 % 1073741824) (t := t8 / 1073741824) eq2 (by omega)
                        rw [show (x + 1).toNat = x.toNat + 1 by omega]
                        show uv1 (ga hh11 (o + 1)) j x.toNat + ga hh11 (o + 1) (j + (x.toNat : Int)) * 1073741824 ^ x.toNat + _ = uv1 (ga hI (o + 1)) j x.toNat + ga hI (o + 1) (j + (x.toNat : Int)) * 1073741824 ^ x.toNat + 1 * (nv1 (ga h (s + 1)) x.toNat + ga h (s + 1) (x.toNat : Int) * 1073741824 ^ x.toNat)
                        rw [show (x.toNat : Int) = x by omega, f6 (j + x) (by omega), if_pos rfl, ← uv9, ← zv9, show uv1 (ga hh11 (o + 1)) j x.toNat = uv1 (ga hJ (o + 1)) j x.toNat from nv1_cg fun y a b => by rw [f6 (j + y) (by omega), if_neg (by omega)]]
                        exact z
                      · omega
                refine m_sub [(0, (2, ((o : Nat) : Int))), (1, (2, ((s : Nat) : Int))), (2, (0, n)), (3, (0, j)), (12, (1, (gf - 1))), (16, (1, 0)), (18, (1, tp)), (20, (0, 0))] (List.forall_mem_cons.mpr ⟨rfl, List.forall_mem_cons.mpr ⟨rfl, List.forall_mem_cons.mpr ⟨rfl, List.forall_mem_cons.mpr ⟨rfl, List.forall_mem_cons.mpr ⟨rfl, List.forall_mem_cons.mpr ⟨rfl, List.forall_mem_cons.mpr ⟨rfl, List.forall_mem_cons.mpr ⟨rfl, fun _ h => absurd h List.not_mem_nil⟩⟩⟩⟩⟩⟩⟩⟩) ?_
                refine lp160 ((n - (0)) + 1).toNat (0) (0) hI g101 ?_ ?_ ?_ ?_ ?_ ?_ ?_
                · exact hO
                · omega
                · omega
                · exact dg
                · intro y _ _
                  rfl
                · show (0 : Int) + 0 * _ = 0 + 1 * 0
                  rw [Int.zero_mul, Int.mul_zero]
                · omega
            · skip
              refine hd_aload pkX1_quotientLimb rfl rfl (Int.natCast_nonneg _) ?_
              refine hd_getR (n := o + 1) pkX1_quotientLimb rfl (g101.ob 0 rfl).1 (g101.ob 0 rfl).2.1 (g101.rf 0 rfl) ?_
              refine hd_iload pkX1_quotientLimb rfl rfl ?_
              refine hd_iload pkX1_quotientLimb rfl rfl ?_
              refine hd_iadd pkX1_quotientLimb rfl (by omega) ?_
              refine hd_iald (n := W) pkX1_quotientLimb rfl (g101.ar 0 rfl) (by omega) (by omega) (fun v12 ev12 rv12 => ?_)
              obtain ⟨x9, qv12⟩ : ∃ x : Int, x = v12 := ⟨_, rfl⟩
              have xv : x9 = ga h (o + 1) (j + i) := by rw [qv12, ev12, show i + j = j + i by omega]; exact un (j + i) (by omega) (by omega)
              have xb : 0 ≤ x9 ∧ x9 ≤ 1073741823 := by rw [xv]; exact d0 (j + i) (by omega) (by omega)
              subst qv12
              refine hd_i2l pkX1_quotientLimb rfl ?_
              refine hd_lload pkX1_quotientLimb rfl rfl ?_
              refine hd_ladd pkX1_quotientLimb rfl (by omega) ?_
              refine hd_lload pkX1_quotientLimb rfl rfl ?_
              refine hd_aload pkX1_quotientLimb rfl rfl (Int.natCast_nonneg _) ?_
              refine hd_getR (n := s + 1) pkX1_quotientLimb rfl (g101.ob 1 rfl).1 (g101.ob 1 rfl).2.1 (g101.rf 1 rfl) ?_
              refine hd_iload pkX1_quotientLimb rfl rfl ?_
              refine hd_iald (n := V) pkX1_quotientLimb rfl (g101.ar 1 rfl) (by omega) (by omega) (fun v13 ev13 rv13 => ?_)
              obtain ⟨y9, qv13⟩ : ∃ x : Int, x = v13 := ⟨_, rfl⟩
              have yv : y9 = ga h (s + 1) i := (qv13.trans ev13).trans (hO.ga (by simp only [List.mem_cons, List.not_mem_nil, or_false, not_or]; omega) _)
              have yb : 0 ≤ y9 ∧ y9 ≤ 1073741823 := by rw [yv]; exact ds i (by omega) (by omega)
              have gy : 0 ≤ gf * y9 ∧ gf * y9 ≤ 1073741823 * 1073741823 := ⟨Int.mul_nonneg gfb.2.2.1 yb.1, Int.mul_le_mul gfb.2.2.2 yb.2 yb.1 (by decide)⟩
              subst qv13
              refine hd_i2l pkX1_quotientLimb rfl ?_
              refine hd_lmul pkX1_quotientLimb rfl (by omega) ?_
              refine hd_lsub pkX1_quotientLimb rfl (by omega) ?_
              generalize et9 : ((x9 + ca) - (gf * y9)) = t9
              refine hd_lstore pkX1_quotientLimb rfl rfl ?_
              change MW _ _ _ _ _ [(19, (1, t9)), (0, (2, ((o : Nat) : Int))), (1, (2, ((s : Nat) : Int))), (2, (0, n)), (3, (0, j)), (12, (1, gf)), (16, (1, ca)), (18, (0, i))] _ _
              refine hd_aload pkX1_quotientLimb rfl rfl (Int.natCast_nonneg _) ?_
              refine hd_getR (n := o + 1) pkX1_quotientLimb rfl (g101.ob 0 rfl).1 (g101.ob 0 rfl).2.1 (g101.rf 0 rfl) ?_
              refine hd_iload pkX1_quotientLimb rfl rfl ?_
              refine hd_iload pkX1_quotientLimb rfl rfl ?_
              refine hd_iadd pkX1_quotientLimb rfl (by omega) ?_
              refine hd_lload pkX1_quotientLimb rfl rfl ?_
              refine hd_lpush (z := 1073741823) pkX1_quotientLimb rfl ?_
              refine hd_land (v := (t9 % 1073741824)) pkX1_quotientLimb rfl (by exact h_and30 _) ?_
              refine hd_l2i pkX1_quotientLimb rfl (by omega) ?_
              refine hd_iast (n := W) pkX1_quotientLimb rfl (g101.ar 0 rfl) (by omega) (by omega) (by omega) (fun hh14 ehh14 => ?_)
              have ghh14 : G1 [(o, W), (s, V)] hh14 := by rw [ehh14]; exact g101.set (by omega) (fun qq hq w => absurd w (nx_o qq hq))
              have o2 : Only [o + 1] h hh14 := by rw [ehh14]; exact hO.set List.mem_cons_self
              have f2 : ∀ x : Int, 0 ≤ x → ga hh14 (o + 1) x = if x = j + i then t9 % 1073741824 else ga hI (o + 1) x := fun x a => by rw [ehh14, show i + j = j + i by omega]; exact ga_sa _ _ _ (by omega) a
              refine hd_lload pkX1_quotientLimb rfl rfl ?_
              refine hd_ipush (z := 30) pkX1_quotientLimb rfl ?_
              refine hd_lshr (v := (t9 / 1073741824)) pkX1_quotientLimb rfl (by exact h_shr30 (by omega)) ?_
              refine hd_lstore pkX1_quotientLimb rfl rfl ?_
              change MW _ _ _ _ _ [(16, (1, (t9 / 1073741824))), (19, (1, t9)), (0, (2, ((o : Nat) : Int))), (1, (2, ((s : Nat) : Int))), (2, (0, n)), (3, (0, j)), (12, (1, gf)), (18, (0, i))] _ _
              refine hd_iinc (z := 1) pkX1_quotientLimb rfl rfl (by omega) rfl ?_
              change MW _ _ _ _ _ [(18, (0, (i + 1))), (16, (1, (t9 / 1073741824))), (19, (1, t9)), (0, (2, ((o : Nat) : Int))), (1, (2, ((s : Nat) : Int))), (2, (0, n)), (3, (0, j)), (12, (1, gf))] _ _
              refine hd_goto pkX1_quotientLimb rfl ?_
              refine m_sub [(0, (2, ((o : Nat) : Int))), (1, (2, ((s : Nat) : Int))), (2, (0, n)), (3, (0, j)), (12, (1, gf)), (16, (1, (t9 / 1073741824))), (18, (0, (i + 1)))] (List.forall_mem_cons.mpr ⟨rfl, List.forall_mem_cons.mpr ⟨rfl, List.forall_mem_cons.mpr ⟨rfl, List.forall_mem_cons.mpr ⟨rfl, List.forall_mem_cons.mpr ⟨rfl, List.forall_mem_cons.mpr ⟨rfl, List.forall_mem_cons.mpr ⟨rfl, fun _ h => absurd h List.not_mem_nil⟩⟩⟩⟩⟩⟩⟩) ?_
              refine ih101  ((t9 / 1073741824)) ((i + 1)) hh14 ghh14 ?_ ?_ ?_ ?_ ?_ ?_ ?_
              · exact o2
              · omega
              · omega
              · intro x a b
                rw [f2 x a]
                split
                · omega
                · exact dg x a b
              · intro x w a
                rw [f2 x w, if_neg (by omega)]
                exact un x w (by omega)
              · have z := sum1 (x := x9) (y := y9) (w := -gf) (b := t9 % 1073741824) (t := t9 / 1073741824) eq (by rw [Int.neg_mul]; omega)
                rw [show (i + 1).toNat = i.toNat + 1 by omega]
                show uv1 (ga hh14 (o + 1)) j i.toNat + ga hh14 (o + 1) (j + (i.toNat : Int)) * 1073741824 ^ i.toNat + _ = uv1 (ga h (o + 1)) j i.toNat + ga h (o + 1) (j + (i.toNat : Int)) * 1073741824 ^ i.toNat + -gf * (nv1 (ga h (s + 1)) i.toNat + ga h (s + 1) (i.toNat : Int) * 1073741824 ^ i.toNat)
                rw [show (i.toNat : Int) = i by omega, f2 (j + i) (by omega), if_pos rfl, ← xv, ← yv, show uv1 (ga hh14 (o + 1)) j i.toNat = uv1 (ga hI (o + 1)) j i.toNat from nv1_cg fun x a b => by rw [f2 (j + x) (by omega), if_neg (by omega)]]
                exact z
              · omega
        refine m_sub [(0, (2, ((o : Nat) : Int))), (1, (2, ((s : Nat) : Int))), (2, (0, n)), (3, (0, j)), (12, (1, gf)), (16, (1, 0)), (18, (0, 0))] (List.forall_mem_cons.mpr ⟨rfl, List.forall_mem_cons.mpr ⟨rfl, List.forall_mem_cons.mpr ⟨rfl, List.forall_mem_cons.mpr ⟨rfl, List.forall_mem_cons.mpr ⟨rfl, List.forall_mem_cons.mpr ⟨rfl, List.forall_mem_cons.mpr ⟨rfl, fun _ h => absurd h List.not_mem_nil⟩⟩⟩⟩⟩⟩⟩) ?_
        refine lp101 ((n - (0)) + 1).toNat (0) (0) h g ?_ ?_ ?_ ?_ ?_ ?_ ?_
        · exact Only.refl _ _
        · omega
        · omega
        · exact d0
        · intro x _ _
          rfl
        · show (0 : Int) + 0 * _ = 0 + -gf * 0
          rw [Int.zero_mul, Int.mul_zero]
        · omega
      refine hd_ipush (z := 0) pkX1_quotientLimb rfl ?_
      refine hd_istore pkX1_quotientLimb rfl rfl ?_
      change MW _ _ _ _ _ [(16, (0, 0)), (14, (1, le)), (12, (1, gu)), (10, (1, hd)), (8, (1, th)), (0, (2, ((o : Nat) : Int))), (1, (2, ((s : Nat) : Int))), (2, (0, n)), (3, (0, j)), (4, (1, fi)), (6, (1, se))] _ _
      have lp66 : ∀ (N66 : Nat) (gk lk k : Int), (0 ≤ k ∧ k ≤ 3) → (gk * fi + lk = hd) → (Q9 ≤ gk ∧ gk ≤ 1073741825) → (0 ≤ lk ∧ lk < (k + 1) * 1073741824) → (k = 0 → lk < fi) → (1 ≤ k → gk ≤ 1073741824) → (2 ≤ k → 1073741824 ≤ lk) → (1 ≤ k → 536870912 ≤ lk) → (3 : Int) - k < (N66 : Int) → MW KX1_quotientLimb Q 0 0 (pcA pgX1_quotientLimb 66) [(0, (2, ((o : Nat) : Int))), (1, (2, ((s : Nat) : Int))), (2, (0, n)), (3, (0, j)), (4, (1, fi)), (6, (1, se)), (8, (1, th)), (10, (1, hd)), (12, (1, gk)), (14, (1, lk)), (16, (0, k))] [] h := by
        intro N66
        induction N66 with
        | zero => intro gk lk k k0 glk gq lb ka kb kc kd hm66; exfalso; omega
        | succ N66 ih66 =>
          intro gk lk k k0 glk gq lb ka kb kc kd hm66
          refine hd_iload pkX1_quotientLimb rfl rfl ?_
          refine hd_ipush (z := 3) pkX1_quotientLimb rfl ?_
          refine hd_ic_ge pkX1_quotientLimb rfl (fun c15 => ?_) (fun c15 => ?_)
          · skip
            refine m_sub [(0, (2, ((o : Nat) : Int))), (1, (2, ((s : Nat) : Int))), (2, (0, n)), (3, (0, j)), (12, (1, gk))] (List.forall_mem_cons.mpr ⟨rfl, List.forall_mem_cons.mpr ⟨rfl, List.forall_mem_cons.mpr ⟨rfl, List.forall_mem_cons.mpr ⟨rfl, List.forall_mem_cons.mpr ⟨rfl, fun _ h => absurd h List.not_mem_nil⟩⟩⟩⟩⟩) ?_
            refine cut97 (gk) ?_
            · by_cases w : 1073741824 ≤ lk
              · have k1 : 1 ≤ k := by
                  by_cases z : 1 ≤ k
                  · exact z
                  · have := ka (by omega)
                    omega
                have a := kd2 gk lk (by omega) (kb k1) glk w
                omega
              · have a := kd3 gk lk (by omega) (by omega) glk lb.1 (by omega)
                omega
          · skip
            refine hd_lload pkX1_quotientLimb rfl rfl ?_
            refine hd_lpush (z := 1073741824) pkX1_quotientLimb rfl ?_
            refine hd_lc_ge pkX1_quotientLimb rfl (fun c16 => ?_) (fun c16 => ?_)
            · skip
              refine m_sub [(0, (2, ((o : Nat) : Int))), (1, (2, ((s : Nat) : Int))), (2, (0, n)), (3, (0, j)), (12, (1, gk))] (List.forall_mem_cons.mpr ⟨rfl, List.forall_mem_cons.mpr ⟨rfl, List.forall_mem_cons.mpr ⟨rfl, List.forall_mem_cons.mpr ⟨rfl, List.forall_mem_cons.mpr ⟨rfl, fun _ h => absurd h List.not_mem_nil⟩⟩⟩⟩⟩) ?_
              refine cut97 (gk) ?_
              · by_cases w : 1073741824 ≤ lk
                · have k1 : 1 ≤ k := by
                    by_cases z : 1 ≤ k
                    · exact z
                    · have := ka (by omega)
                      omega
                  have a := kd2 gk lk (by omega) (kb k1) glk w
                  omega
                · have a := kd3 gk lk (by omega) (by omega) glk lb.1 (by omega)
                  omega
            · skip
              refine hd_lload pkX1_quotientLimb rfl rfl ?_
              refine hd_lpush (z := 1073741824) pkX1_quotientLimb rfl ?_
              refine hd_lc_ge pkX1_quotientLimb rfl (fun c17 => ?_) (fun c17 => ?_)
              · skip
                refine hd_lload pkX1_quotientLimb rfl rfl ?_
                refine hd_lpush (z := 1) pkX1_quotientLimb rfl ?_
                refine hd_lsub pkX1_quotientLimb rfl (by omega) ?_
                refine hd_lstore pkX1_quotientLimb rfl rfl ?_
                change MW _ _ _ _ _ [(12, (1, (gk - 1))), (0, (2, ((o : Nat) : Int))), (1, (2, ((s : Nat) : Int))), (2, (0, n)), (3, (0, j)), (4, (1, fi)), (6, (1, se)), (8, (1, th)), (10, (1, hd)), (14, (1, lk)), (16, (0, k))] _ _
                refine hd_lload pkX1_quotientLimb rfl rfl ?_
                refine hd_lload pkX1_quotientLimb rfl rfl ?_
                refine hd_ladd pkX1_quotientLimb rfl (by omega) ?_
                refine hd_lstore pkX1_quotientLimb rfl rfl ?_
                change MW _ _ _ _ _ [(14, (1, (lk + fi))), (12, (1, (gk - 1))), (0, (2, ((o : Nat) : Int))), (1, (2, ((s : Nat) : Int))), (2, (0, n)), (3, (0, j)), (4, (1, fi)), (6, (1, se)), (8, (1, th)), (10, (1, hd)), (16, (0, k))] _ _
                refine hd_iinc (z := 1) pkX1_quotientLimb rfl rfl (by omega) rfl ?_
                change MW _ _ _ _ _ [(16, (0, (k + 1))), (14, (1, (lk + fi))), (12, (1, (gk - 1))), (0, (2, ((o : Nat) : Int))), (1, (2, ((s : Nat) : Int))), (2, (0, n)), (3, (0, j)), (4, (1, fi)), (6, (1, se)), (8, (1, th)), (10, (1, hd))] _ _
                refine hd_goto pkX1_quotientLimb rfl ?_
                refine m_sub [(0, (2, ((o : Nat) : Int))), (1, (2, ((s : Nat) : Int))), (2, (0, n)), (3, (0, j)), (4, (1, fi)), (6, (1, se)), (8, (1, th)), (10, (1, hd)), (12, (1, (gk - 1))), (14, (1, (lk + fi))), (16, (0, (k + 1)))] (List.forall_mem_cons.mpr ⟨rfl, List.forall_mem_cons.mpr ⟨rfl, List.forall_mem_cons.mpr ⟨rfl, List.forall_mem_cons.mpr ⟨rfl, List.forall_mem_cons.mpr ⟨rfl, List.forall_mem_cons.mpr ⟨rfl, List.forall_mem_cons.mpr ⟨rfl, List.forall_mem_cons.mpr ⟨rfl, List.forall_mem_cons.mpr ⟨rfl, List.forall_mem_cons.mpr ⟨rfl, List.forall_mem_cons.mpr ⟨rfl, fun _ h => absurd h List.not_mem_nil⟩⟩⟩⟩⟩⟩⟩⟩⟩⟩⟩) ?_
                refine ih66  ((gk - 1)) ((lk + fi)) ((k + 1)) ?_ ?_ ?_ ?_ ?_ ?_ ?_ ?_ ?_
                · omega
                · rw [Int.sub_mul, Int.one_mul]
                  omega
                · refine ⟨?_, by omega⟩
                  first | omega | exact kd1 gk lk (by omega) lb.1 glk (by omega)
                · omega
                · intro w
                  omega
                · intro w
                  by_cases q : k = 0
                  · omega
                  · have := kb (by omega)
                    omega
                · intro w
                  have := kd (by omega)
                  omega
                · intro w
                  omega
                · omega
              · skip
                refine hd_lload pkX1_quotientLimb rfl rfl ?_
                refine hd_lload pkX1_quotientLimb rfl rfl ?_
                refine hd_lmul pkX1_quotientLimb rfl (by have a := Int.mul_nonneg (show (0 : Int) ≤ gk by omega) seb.1; have b := Int.mul_le_mul gq.2 seb.2 seb.1 (by decide); omega) ?_
                generalize egs9 : (gk * se) = gs9
                refine hd_lload pkX1_quotientLimb rfl rfl ?_
                refine hd_lpush (z := 1073741824) pkX1_quotientLimb rfl ?_
                refine hd_lmul pkX1_quotientLimb rfl (by omega) ?_
                refine hd_lload pkX1_quotientLimb rfl rfl ?_
                refine hd_ladd pkX1_quotientLimb rfl (by omega) ?_
                refine hd_lc_le pkX1_quotientLimb rfl (fun c18 => ?_) (fun c18 => ?_)
                · skip
                  refine m_sub [(0, (2, ((o : Nat) : Int))), (1, (2, ((s : Nat) : Int))), (2, (0, n)), (3, (0, j)), (12, (1, gk))] (List.forall_mem_cons.mpr ⟨rfl, List.forall_mem_cons.mpr ⟨rfl, List.forall_mem_cons.mpr ⟨rfl, List.forall_mem_cons.mpr ⟨rfl, List.forall_mem_cons.mpr ⟨rfl, fun _ h => absurd h List.not_mem_nil⟩⟩⟩⟩⟩) ?_
                  refine cut97 (gk) ?_
                  · by_cases w : 1073741824 ≤ lk
                    · have k1 : 1 ≤ k := by
                        by_cases z : 1 ≤ k
                        · exact z
                        · have := ka (by omega)
                          omega
                      have a := kd2 gk lk (by omega) (kb k1) glk w
                      omega
                    · have a := kd3 gk lk (by omega) (by omega) glk lb.1 (by omega)
                      omega
                · skip
                  refine hd_lload pkX1_quotientLimb rfl rfl ?_
                  refine hd_lpush (z := 1) pkX1_quotientLimb rfl ?_
                  refine hd_lsub pkX1_quotientLimb rfl (by omega) ?_
                  refine hd_lstore pkX1_quotientLimb rfl rfl ?_
                  change MW _ _ _ _ _ [(12, (1, (gk - 1))), (0, (2, ((o : Nat) : Int))), (1, (2, ((s : Nat) : Int))), (2, (0, n)), (3, (0, j)), (4, (1, fi)), (6, (1, se)), (8, (1, th)), (10, (1, hd)), (14, (1, lk)), (16, (0, k))] _ _
                  refine hd_lload pkX1_quotientLimb rfl rfl ?_
                  refine hd_lload pkX1_quotientLimb rfl rfl ?_
                  refine hd_ladd pkX1_quotientLimb rfl (by omega) ?_
                  refine hd_lstore pkX1_quotientLimb rfl rfl ?_
                  change MW _ _ _ _ _ [(14, (1, (lk + fi))), (12, (1, (gk - 1))), (0, (2, ((o : Nat) : Int))), (1, (2, ((s : Nat) : Int))), (2, (0, n)), (3, (0, j)), (4, (1, fi)), (6, (1, se)), (8, (1, th)), (10, (1, hd)), (16, (0, k))] _ _
                  refine hd_iinc (z := 1) pkX1_quotientLimb rfl rfl (by omega) rfl ?_
                  change MW _ _ _ _ _ [(16, (0, (k + 1))), (14, (1, (lk + fi))), (12, (1, (gk - 1))), (0, (2, ((o : Nat) : Int))), (1, (2, ((s : Nat) : Int))), (2, (0, n)), (3, (0, j)), (4, (1, fi)), (6, (1, se)), (8, (1, th)), (10, (1, hd))] _ _
                  refine hd_goto pkX1_quotientLimb rfl ?_
                  refine m_sub [(0, (2, ((o : Nat) : Int))), (1, (2, ((s : Nat) : Int))), (2, (0, n)), (3, (0, j)), (4, (1, fi)), (6, (1, se)), (8, (1, th)), (10, (1, hd)), (12, (1, (gk - 1))), (14, (1, (lk + fi))), (16, (0, (k + 1)))] (List.forall_mem_cons.mpr ⟨rfl, List.forall_mem_cons.mpr ⟨rfl, List.forall_mem_cons.mpr ⟨rfl, List.forall_mem_cons.mpr ⟨rfl, List.forall_mem_cons.mpr ⟨rfl, List.forall_mem_cons.mpr ⟨rfl, List.forall_mem_cons.mpr ⟨rfl, List.forall_mem_cons.mpr ⟨rfl, List.forall_mem_cons.mpr ⟨rfl, List.forall_mem_cons.mpr ⟨rfl, List.forall_mem_cons.mpr ⟨rfl, fun _ h => absurd h List.not_mem_nil⟩⟩⟩⟩⟩⟩⟩⟩⟩⟩⟩) ?_
                  refine ih66  ((gk - 1)) ((lk + fi)) ((k + 1)) ?_ ?_ ?_ ?_ ?_ ?_ ?_ ?_ ?_
                  · omega
                  · rw [Int.sub_mul, Int.one_mul]
                    omega
                  · refine ⟨?_, by omega⟩
                    first | omega | exact kd1 gk lk (by omega) lb.1 glk (by omega)
                  · omega
                  · intro w
                    omega
                  · intro w
                    by_cases q : k = 0
                    · omega
                    · have := kb (by omega)
                      omega
                  · intro w
                    have := kd (by omega)
                    omega
                  · intro w
                    omega
                  · omega
      refine m_sub [(0, (2, ((o : Nat) : Int))), (1, (2, ((s : Nat) : Int))), (2, (0, n)), (3, (0, j)), (4, (1, fi)), (6, (1, se)), (8, (1, th)), (10, (1, hd)), (12, (1, gu)), (14, (1, le)), (16, (0, 0))] (List.forall_mem_cons.mpr ⟨rfl, List.forall_mem_cons.mpr ⟨rfl, List.forall_mem_cons.mpr ⟨rfl, List.forall_mem_cons.mpr ⟨rfl, List.forall_mem_cons.mpr ⟨rfl, List.forall_mem_cons.mpr ⟨rfl, List.forall_mem_cons.mpr ⟨rfl, List.forall_mem_cons.mpr ⟨rfl, List.forall_mem_cons.mpr ⟨rfl, List.forall_mem_cons.mpr ⟨rfl, List.forall_mem_cons.mpr ⟨rfl, fun _ h => absurd h List.not_mem_nil⟩⟩⟩⟩⟩⟩⟩⟩⟩⟩⟩) ?_
      refine lp66 (((3 : Int) - (0)) + 1).toNat (gu) (le) (0) ?_ ?_ ?_ ?_ ?_ ?_ ?_ ?_ ?_
      · omega
      · exact gl
      · omega
      · omega
      · intro _
        omega
      · omega
      · omega
      · omega
      · omega
    refine hd_iload pkX1_quotientLimb rfl rfl ?_
    refine hd_ipush (z := 1) pkX1_quotientLimb rfl ?_
    refine hd_ic_le pkX1_quotientLimb rfl (fun c19 => ?_) (fun c19 => ?_)
    · skip
      refine hd_lpush (z := 0) pkX1_quotientLimb rfl ?_
      refine m_sub [(0, (2, ((o : Nat) : Int))), (1, (2, ((s : Nat) : Int))), (2, (0, n)), (3, (0, j)), (4, (1, fi)), (6, (1, se))] (List.forall_mem_cons.mpr ⟨rfl, List.forall_mem_cons.mpr ⟨rfl, List.forall_mem_cons.mpr ⟨rfl, List.forall_mem_cons.mpr ⟨rfl, List.forall_mem_cons.mpr ⟨rfl, List.forall_mem_cons.mpr ⟨rfl, fun _ h => absurd h List.not_mem_nil⟩⟩⟩⟩⟩⟩) ?_
      refine cut35 (0) ?_ ?_
      · first | exact ⟨fun _ => by omega, fun w => by omega⟩
      · first | decide | omega
    · skip
      refine hd_aload pkX1_quotientLimb rfl rfl (Int.natCast_nonneg _) ?_
      refine hd_getR (n := o + 1) pkX1_quotientLimb rfl (g.ob 0 rfl).1 (g.ob 0 rfl).2.1 (g.rf 0 rfl) ?_
      refine hd_iload pkX1_quotientLimb rfl rfl ?_
      refine hd_iload pkX1_quotientLimb rfl rfl ?_
      refine hd_iadd pkX1_quotientLimb rfl (by omega) ?_
      refine hd_ipush (z := 2) pkX1_quotientLimb rfl ?_
      refine hd_isub pkX1_quotientLimb rfl (by omega) ?_
      refine hd_iald (n := W) pkX1_quotientLimb rfl (g.ar 0 rfl) (by omega) (by omega) (fun v20 ev20 rv20 => ?_)
      replace ev20 : v20 = ga h (o + 1) (j + (n - 2)) := by rw [ev20, show j + n - 2 = j + (n - 2) by omega]
      have tb8 : 0 ≤ v20 ∧ v20 ≤ 1073741823 := by rw [ev20]; exact d0 (j + (n - 2)) (by omega) (by omega)
      refine hd_i2l pkX1_quotientLimb rfl ?_
      refine hd_goto pkX1_quotientLimb rfl ?_
      refine m_sub [(0, (2, ((o : Nat) : Int))), (1, (2, ((s : Nat) : Int))), (2, (0, n)), (3, (0, j)), (4, (1, fi)), (6, (1, se))] (List.forall_mem_cons.mpr ⟨rfl, List.forall_mem_cons.mpr ⟨rfl, List.forall_mem_cons.mpr ⟨rfl, List.forall_mem_cons.mpr ⟨rfl, List.forall_mem_cons.mpr ⟨rfl, List.forall_mem_cons.mpr ⟨rfl, fun _ h => absurd h List.not_mem_nil⟩⟩⟩⟩⟩⟩) ?_
      refine cut35 (v20) ?_ ?_
      · first | exact ⟨fun _ => by omega, fun w => by omega⟩
      · first | decide | omega
  refine hd_iload pkX1_quotientLimb rfl rfl ?_
  refine hd_ipush (z := 1) pkX1_quotientLimb rfl ?_
  refine hd_ic_le pkX1_quotientLimb rfl (fun c21 => ?_) (fun c21 => ?_)
  · skip
    refine hd_lpush (z := 0) pkX1_quotientLimb rfl ?_
    refine m_sub [(0, (2, ((o : Nat) : Int))), (1, (2, ((s : Nat) : Int))), (2, (0, n)), (3, (0, j)), (4, (1, fi))] (List.forall_mem_cons.mpr ⟨rfl, List.forall_mem_cons.mpr ⟨rfl, List.forall_mem_cons.mpr ⟨rfl, List.forall_mem_cons.mpr ⟨rfl, List.forall_mem_cons.mpr ⟨rfl, fun _ h => absurd h List.not_mem_nil⟩⟩⟩⟩⟩) ?_
    refine cut20 (0) ?_ ?_
    · first | exact ⟨fun _ => by omega, fun w => by omega⟩
    · first | decide | omega
  · skip
    refine hd_aload pkX1_quotientLimb rfl rfl (Int.natCast_nonneg _) ?_
    refine hd_getR (n := s + 1) pkX1_quotientLimb rfl (g.ob 1 rfl).1 (g.ob 1 rfl).2.1 (g.rf 1 rfl) ?_
    refine hd_iload pkX1_quotientLimb rfl rfl ?_
    refine hd_ipush (z := 2) pkX1_quotientLimb rfl ?_
    refine hd_isub pkX1_quotientLimb rfl (by omega) ?_
    refine hd_iald (n := V) pkX1_quotientLimb rfl (g.ar 1 rfl) (by omega) (by omega) (fun v22 ev22 rv22 => ?_)
    have sb8 : 0 ≤ v22 ∧ v22 ≤ 1073741823 := by rw [ev22]; exact ds (n - 2) (by omega) (by omega)
    refine hd_i2l pkX1_quotientLimb rfl ?_
    refine hd_goto pkX1_quotientLimb rfl ?_
    refine m_sub [(0, (2, ((o : Nat) : Int))), (1, (2, ((s : Nat) : Int))), (2, (0, n)), (3, (0, j)), (4, (1, fi))] (List.forall_mem_cons.mpr ⟨rfl, List.forall_mem_cons.mpr ⟨rfl, List.forall_mem_cons.mpr ⟨rfl, List.forall_mem_cons.mpr ⟨rfl, List.forall_mem_cons.mpr ⟨rfl, fun _ h => absurd h List.not_mem_nil⟩⟩⟩⟩⟩) ?_
    refine cut20 (v22) ?_ ?_
    · first | exact ⟨fun _ => by omega, fun w => by omega⟩
    · first | decide | omega
