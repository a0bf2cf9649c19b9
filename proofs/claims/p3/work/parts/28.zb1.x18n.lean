/-! X18 by hand: its methods -/
abbrev t18c : List (Nat × Nat × Nat) := [(2534, 34, 0), (2535, 0, 300), (2536, 0, 301), (2537, 0, 300), (2538, 0, 300), (2539, 0, 300), (2540, 0, 8), (2541, 1, 32), (2542, 1, 32), (2543, 1, 8), (2544, 1, 2), (2545, 0, 80), (2546, 0, 32), (2547, 0, 64), (2548, 0, 64), (2549, 0, 64), (2550, 1, 961)]
abbrev r18c : List (Nat × Nat × Nat) := [(2534, 1, 2535), (2534, 3, 2536), (2534, 5, 2537), (2534, 6, 2538), (2534, 7, 2539), (2534, 8, 2540), (2534, 9, 2541), (2534, 10, 2542), (2534, 11, 2543), (2534, 15, 2544), (2534, 17, 2545), (2534, 20, 2546), (2534, 21, 2547), (2534, 22, 2548), (2534, 23, 2549), (2534, 24, 2550)]
set_option maxRecDepth 20000 in
set_option maxHeartbeats 8000000 in
theorem h_X18_set {h : MH} {c : Nat} (c4 : 4 ≤ c) {v : Int} (hv : 0 ≤ v ∧ v ≤ 1) (g : Str [(c, 0, 64)] [] h) : MCal KX18_set yX18_set 0 0 [(2, ((c : Nat) : Int)), (0, v)] h (mRV fun h' => Only [c] h h' ∧ D18 (ga h' c) ∧ hv18 (ga h' c) 64 = v) := by
  refine MCal.ofMW (Or.inl rfl) ⟨cp_X18, rfl⟩ (Nat.le_of_ble_eq_true rfl) ?_
  generalize eQ : (mRV fun h' => Only [c] h h' ∧ D18 (ga h' c) ∧ hv18 (ga h' c) 64 = v : MO → MH → Prop) = Q
  change MW KX18_set Q 0 0 (pcA pgX18_set 0) [(0, (2, ((c : Nat) : Int))), (1, (0, v))] [] h
  refine hd_locI (i := 1) rfl (fun rv => ?_)
  refine hd_ipush (z := 0) pkX18_set rfl ?_
  refine hd_istore pkX18_set rfl rfl ?_
  change MW _ _ _ _ _ [(2, (0, 0)), (0, (2, ((c : Nat) : Int))), (1, (0, v))] _ _
  have lp2 : ∀ (N2 : Nat) (k : Int) (hI : MH), Str [(c, 0, 64)] [] hI → (Only [c] h hI) → (0 ≤ k ∧ k ≤ 64) → (∀ j : Int, 0 ≤ j → j < k → ga hI c j = 0) → (64 : Int) - k < (N2 : Int) → MW KX18_set Q 0 0 (pcA pgX18_set 2) [(0, (2, ((c : Nat) : Int))), (1, (0, v)), (2, (0, k))] [] hI := by
    intro N2
    induction N2 with
    | zero => intro k hI g2 hO k0 zz hm2; exfalso; omega
    | succ N2 ih2 =>
      intro k hI g2 hO k0 zz hm2
      refine hd_iload pkX18_set rfl rfl ?_
      refine hd_ipush (z := 64) pkX18_set rfl ?_
      refine hd_ic_ge pkX18_set rfl (fun c1 => ?_) (fun c1 => ?_)
      · skip
        refine hd_aload pkX18_set rfl rfl (Int.natCast_nonneg _) ?_
        refine hd_ipush (z := 0) pkX18_set rfl ?_
        refine hd_iload pkX18_set rfl rfl ?_
        refine hd_ipush (z := 65535) pkX18_set rfl ?_
        refine hd_iand (v := (v % 65536)) pkX18_set rfl (by exact h_and16i _) ?_
        refine hd_iast (n := 64) pkX18_set rfl (g2.cell 0 rfl) c4 (by omega) (by omega) (fun hh2 ehh2 => ?_)
        have ghh2 : Str [(c, 0, 64)] [] hh2 := by rw [ehh2]; exact g2.setA rfl
        have o3 : Only [c] h hh2 := by rw [ehh2]; exact hO.set List.mem_cons_self
        have f3 : ∀ j : Int, 0 ≤ j → ga hh2 c j = if j = 0 then v % 65536 else ga hI c j := fun j a => by rw [ehh2]; exact ga_sa _ _ _ (by decide) a
        refine hd_aload pkX18_set rfl rfl (Int.natCast_nonneg _) ?_
        refine hd_ipush (z := 1) pkX18_set rfl ?_
        refine hd_iload pkX18_set rfl rfl ?_
        refine hd_ipush (z := 16) pkX18_set rfl ?_
        refine hd_ishr (v := (v / 65536)) pkX18_set rfl (by exact h_shr16i (by omega)) ?_
        refine hd_iast (n := 64) pkX18_set rfl (ghh2.cell 0 rfl) c4 (by omega) (by omega) (fun hh3 ehh3 => ?_)
        have ghh3 : Str [(c, 0, 64)] [] hh3 := by rw [ehh3]; exact ghh2.setA rfl
        have o4 : Only [c] h hh3 := by rw [ehh3]; exact o3.set List.mem_cons_self
        have f4 : ∀ j : Int, 0 ≤ j → j ≤ 63 → ga hh3 c j = if j = 0 then v else 0 := fun j a b => by
          rw [ehh3, ga_sa _ _ _ (by decide) a]
          by_cases q : j = 1
          · rw [if_pos q, if_neg (by omega)]; omega
          · rw [if_neg q, f3 j a]
            by_cases q2 : j = 0
            · rw [if_pos q2, if_pos q2]; omega
            · rw [if_neg q2, if_neg q2]; exact zz j a (by omega)
        refine hd_vret pkX18_set rfl ?_
        subst eQ
        refine ⟨rfl, o4, fun j a b => ?_, ?_⟩
        · rw [f4 j a b]
          split <;> omega
        · refine set18 (fun j a b => ?_) ?_
          · rw [f4 j (by omega) b, if_neg (by omega)]
          · rw [f4 0 (by decide) (by decide), if_pos rfl]
      · skip
        refine hd_aload pkX18_set rfl rfl (Int.natCast_nonneg _) ?_
        refine hd_iload pkX18_set rfl rfl ?_
        refine hd_ipush (z := 0) pkX18_set rfl ?_
        refine hd_iast (n := 64) pkX18_set rfl (g2.cell 0 rfl) c4 (by omega) (by omega) (fun hh4 ehh4 => ?_)
        have ghh4 : Str [(c, 0, 64)] [] hh4 := by rw [ehh4]; exact g2.setA rfl
        have o2 : Only [c] h hh4 := by rw [ehh4]; exact hO.set List.mem_cons_self
        have f2 : ∀ j : Int, 0 ≤ j → ga hh4 c j = if j = k then 0 else ga hI c j := fun j a => by rw [ehh4]; exact ga_sa _ _ _ k0.1 a
        refine hd_iinc (z := 1) pkX18_set rfl rfl (by omega) rfl ?_
        change MW _ _ _ _ _ [(2, (0, (k + 1))), (0, (2, ((c : Nat) : Int))), (1, (0, v))] _ _
        refine hd_goto pkX18_set rfl ?_
        refine m_sub [(0, (2, ((c : Nat) : Int))), (1, (0, v)), (2, (0, (k + 1)))] (List.forall_mem_cons.mpr ⟨rfl, List.forall_mem_cons.mpr ⟨rfl, List.forall_mem_cons.mpr ⟨rfl, fun _ h => absurd h List.not_mem_nil⟩⟩⟩) ?_
        refine ih2  ((k + 1)) hh4 ghh4 ?_ ?_ ?_ ?_
        · exact o2
        · omega
        · intro j a b
          rw [f2 j a]
          split
          · rfl
          · exact zz j a (by omega)
        · omega
  refine m_sub [(0, (2, ((c : Nat) : Int))), (1, (0, v)), (2, (0, 0))] (List.forall_mem_cons.mpr ⟨rfl, List.forall_mem_cons.mpr ⟨rfl, List.forall_mem_cons.mpr ⟨rfl, fun _ h => absurd h List.not_mem_nil⟩⟩⟩) ?_
  refine lp2 (((64 : Int) - (0)) + 1).toNat (0) h g ?_ ?_ ?_ ?_
  · exact Only.refl _ _
  · omega
  · intro j a b
    omega
  · omega
set_option maxRecDepth 20000 in
set_option maxHeartbeats 8000000 in
theorem h_X18_restBy {h : MH} {c : Nat} (c4 : 4 ≤ c) {m : Int} (hm : 1 ≤ m ∧ m ≤ 2000000) (d : D18 (ga h c)) (g : Str [(c, 0, 64)] [] h) : MCal KX18_restBy yX18_restBy 0 0 [(2, ((c : Nat) : Int)), (1, m)] h (mRL fun v h' => v = hv18 (ga h c) 64 % m ∧ h' = h) := by
  refine MCal.ofMW (Or.inl rfl) ⟨cp_X18, rfl⟩ (Nat.le_of_ble_eq_true rfl) ?_
  generalize eQ : (mRL fun v h' => v = hv18 (ga h c) 64 % m ∧ h' = h : MO → MH → Prop) = Q
  change MW KX18_restBy Q 0 0 (pcA pgX18_restBy 0) [(0, (2, ((c : Nat) : Int))), (1, (1, m))] [] h
  refine hd_locL (i := 1) rfl (fun rm => ?_)
  refine hd_lpush (z := 0) pkX18_restBy rfl ?_
  refine hd_lstore pkX18_restBy rfl rfl ?_
  change MW _ _ _ _ _ [(3, (1, 0)), (0, (2, ((c : Nat) : Int))), (1, (1, m))] _ _
  refine hd_ipush (z := 63) pkX18_restBy rfl ?_
  refine hd_istore pkX18_restBy rfl rfl ?_
  change MW _ _ _ _ _ [(5, (0, 63)), (3, (1, 0)), (0, (2, ((c : Nat) : Int))), (1, (1, m))] _ _
  have lp4 : ∀ (N4 : Nat) (r k : Int), (-1 ≤ k ∧ k ≤ 63) → (r = hv18 (ga h c) (63 - k).toNat % m) → (0 ≤ r ∧ r < m) → (k : Int) + 1 < (N4 : Int) → MW KX18_restBy Q 0 0 (pcA pgX18_restBy 4) [(0, (2, ((c : Nat) : Int))), (1, (1, m)), (3, (1, r)), (5, (0, k))] [] h := by
    intro N4
    induction N4 with
    | zero => intro r k k0 er rb hm4; exfalso; omega
    | succ N4 ih4 =>
      intro r k k0 er rb hm4
      refine hd_iload pkX18_restBy rfl rfl ?_
      refine hd_if_lt pkX18_restBy rfl (fun c1 => ?_) (fun c1 => ?_)
      · skip
        refine hd_lload pkX18_restBy rfl rfl ?_
        refine hd_lret pkX18_restBy rfl ?_
        subst eQ
        refine ⟨rfl, rfl, ?_, rfl⟩
        have : k = -1 := by omega
        subst this
        exact er
      · skip
        refine hd_lload pkX18_restBy rfl rfl ?_
        refine hd_lpush (z := 65536) pkX18_restBy rfl ?_
        refine hd_lmul pkX18_restBy rfl (by omega) ?_
        refine hd_aload pkX18_restBy rfl rfl (Int.natCast_nonneg _) ?_
        refine hd_iload pkX18_restBy rfl rfl ?_
        refine hd_iald (n := 64) pkX18_restBy rfl (g.cell 0 rfl) (by omega) (by omega) (fun v2 ev2 rv2 => ?_)
        obtain ⟨x9, qv2⟩ : ∃ x : Int, x = v2 := ⟨_, rfl⟩
        have ex9 : x9 = ga h c k := qv2.trans ev2
        have xb := d k (by omega) (by omega)
        rw [← ex9] at xb
        subst qv2
        refine hd_i2l pkX18_restBy rfl ?_
        refine hd_ladd pkX18_restBy rfl (by omega) ?_
        refine hd_lload pkX18_restBy rfl rfl ?_
        refine hd_lrem pkX18_restBy rfl (by omega) (by have e9 := emod_of (x := r * 65536 + x9) (y := m) (by omega) (by omega); omega) ?_
        generalize er2 : (Int.tmod ((r * 65536) + x9) m) = r2
        rw [(emod_of (by omega) (by omega)).1] at er2
        refine hd_lstore pkX18_restBy rfl rfl ?_
        change MW _ _ _ _ _ [(3, (1, r2)), (0, (2, ((c : Nat) : Int))), (1, (1, m)), (5, (0, k))] _ _
        refine hd_iinc (z := (-1)) pkX18_restBy rfl rfl (by omega) rfl ?_
        change MW _ _ _ _ _ [(5, (0, (k + (-1)))), (3, (1, r2)), (0, (2, ((c : Nat) : Int))), (1, (1, m))] _ _
        refine hd_goto pkX18_restBy rfl ?_
        refine m_sub [(0, (2, ((c : Nat) : Int))), (1, (1, m)), (3, (1, r2)), (5, (0, (k + (-1))))] (List.forall_mem_cons.mpr ⟨rfl, List.forall_mem_cons.mpr ⟨rfl, List.forall_mem_cons.mpr ⟨rfl, List.forall_mem_cons.mpr ⟨rfl, fun _ h => absurd h List.not_mem_nil⟩⟩⟩⟩) ?_
        refine ih4  (r2) ((k + (-1))) ?_ ?_ ?_ ?_
        · omega
        · rw [show (63 - (k + -1)).toNat = (63 - k).toNat + 1 by omega]
          show r2 = (ga h c (63 - ((63 - k).toNat : Int)) + 65536 * hv18 (ga h c) (63 - k).toNat) % m
          rw [show (63 : Int) - ((63 - k).toNat : Int) = k by omega, ← rest18, ← er, ← ex9]
          exact er2.symm
        · rw [← er2]
          exact ⟨Int.emod_nonneg _ (by omega), Int.emod_lt_of_pos _ (by omega)⟩
        · omega
  refine m_sub [(0, (2, ((c : Nat) : Int))), (1, (1, m)), (3, (1, 0)), (5, (0, 63))] (List.forall_mem_cons.mpr ⟨rfl, List.forall_mem_cons.mpr ⟨rfl, List.forall_mem_cons.mpr ⟨rfl, List.forall_mem_cons.mpr ⟨rfl, fun _ h => absurd h List.not_mem_nil⟩⟩⟩⟩) ?_
  refine lp4 ((((63) : Int) + 1) + 1).toNat (0) (63) ?_ ?_ ?_ ?_
  · omega
  · show (0 : Int) = 0 % m
    rw [Int.zero_emod]
  · omega
  · omega
set_option maxRecDepth 20000 in
set_option maxHeartbeats 8000000 in
theorem h_X18_divide {h : MH} {c : Nat} (c4 : 4 ≤ c) {m : Int} (hm : 1 ≤ m ∧ m ≤ 2000000) (d : D18 (ga h c)) (g : Str [(c, 0, 64)] [] h) : MCal KX18_divide yX18_divide 0 0 [(2, ((c : Nat) : Int)), (1, m)] h (mRV fun h' => Only [c] h h' ∧ D18 (ga h' c) ∧ hv18 (ga h' c) 64 = hv18 (ga h c) 64 / m) := by
  refine MCal.ofMW (Or.inl rfl) ⟨cp_X18, rfl⟩ (Nat.le_of_ble_eq_true rfl) ?_
  generalize eQ : (mRV fun h' => Only [c] h h' ∧ D18 (ga h' c) ∧ hv18 (ga h' c) 64 = hv18 (ga h c) 64 / m : MO → MH → Prop) = Q
  change MW KX18_divide Q 0 0 (pcA pgX18_divide 0) [(0, (2, ((c : Nat) : Int))), (1, (1, m))] [] h
  refine hd_locL (i := 1) rfl (fun rm => ?_)
  refine hd_lpush (z := 0) pkX18_divide rfl ?_
  refine hd_lstore pkX18_divide rfl rfl ?_
  change MW _ _ _ _ _ [(3, (1, 0)), (0, (2, ((c : Nat) : Int))), (1, (1, m))] _ _
  refine hd_ipush (z := 63) pkX18_divide rfl ?_
  refine hd_istore pkX18_divide rfl rfl ?_
  change MW _ _ _ _ _ [(5, (0, 63)), (3, (1, 0)), (0, (2, ((c : Nat) : Int))), (1, (1, m))] _ _
  have lp4 : ∀ (N4 : Nat) (r k : Int) (hI : MH), Str [(c, 0, 64)] [] hI → (Only [c] h hI) → (-1 ≤ k ∧ k ≤ 63) → (∀ j : Int, 0 ≤ j → j ≤ k → ga hI c j = ga h c j) → (r = hv18 (ga h c) (63 - k).toNat % m) → (0 ≤ r ∧ r < m) → (∀ j : Int, k < j → j ≤ 63 → 0 ≤ ga hI c j ∧ ga hI c j ≤ 65535) → (hv18 (ga hI c) (63 - k).toNat = hv18 (ga h c) (63 - k).toNat / m) → (k : Int) + 1 < (N4 : Int) → MW KX18_divide Q 0 0 (pcA pgX18_divide 4) [(0, (2, ((c : Nat) : Int))), (1, (1, m)), (3, (1, r)), (5, (0, k))] [] hI := by
    intro N4
    induction N4 with
    | zero => intro r k hI g4 hO k0 lo er rb hi eq hm4; exfalso; omega
    | succ N4 ih4 =>
      intro r k hI g4 hO k0 lo er rb hi eq hm4
      refine hd_iload pkX18_divide rfl rfl ?_
      refine hd_if_lt pkX18_divide rfl (fun c1 => ?_) (fun c1 => ?_)
      · skip
        refine hd_vret pkX18_divide rfl ?_
        subst eQ
        have : k = -1 := by omega
        subst this
        exact ⟨rfl, hO, fun j a b => hi j (by omega) b, eq⟩
      · skip
        refine hd_lload pkX18_divide rfl rfl ?_
        refine hd_lpush (z := 65536) pkX18_divide rfl ?_
        refine hd_lmul pkX18_divide rfl (by omega) ?_
        refine hd_aload pkX18_divide rfl rfl (Int.natCast_nonneg _) ?_
        refine hd_iload pkX18_divide rfl rfl ?_
        refine hd_iald (n := 64) pkX18_divide rfl (g4.cell 0 rfl) (by omega) (by omega) (fun v2 ev2 rv2 => ?_)
        obtain ⟨x9, qv2⟩ : ∃ x : Int, x = v2 := ⟨_, rfl⟩
        have ex9 : x9 = ga h c k := (qv2.trans ev2).trans (lo k (by omega) (Int.le_refl _))
        have xb := d k (by omega) (by omega)
        rw [← ex9] at xb
        have q9 := div18 (r := r) (x := x9) (m := m) (by omega) rb xb
        subst qv2
        refine hd_i2l pkX18_divide rfl ?_
        refine hd_ladd pkX18_divide rfl (by omega) ?_
        refine hd_lstore pkX18_divide rfl rfl ?_
        change MW _ _ _ _ _ [(6, (1, ((r * 65536) + x9))), (0, (2, ((c : Nat) : Int))), (1, (1, m)), (3, (1, r)), (5, (0, k))] _ _
        refine hd_aload pkX18_divide rfl rfl (Int.natCast_nonneg _) ?_
        refine hd_iload pkX18_divide rfl rfl ?_
        refine hd_lload pkX18_divide rfl rfl ?_
        refine hd_lload pkX18_divide rfl rfl ?_
        refine hd_ldiv pkX18_divide rfl (by omega) (by have e9 := (tdiv12 (x := r * 65536 + x9) (y := m) (by omega) (by omega)).1; omega) ?_
        generalize eq2 : (Int.tdiv ((r * 65536) + x9) m) = q2
        rw [(tdiv12 (by omega) (by omega)).1] at eq2
        refine hd_l2i pkX18_divide rfl (by omega) ?_
        refine hd_iast (n := 64) pkX18_divide rfl (g4.cell 0 rfl) c4 (by omega) (by omega) (fun hh3 ehh3 => ?_)
        have ghh3 : Str [(c, 0, 64)] [] hh3 := by rw [ehh3]; exact g4.setA rfl
        have o2 : Only [c] h hh3 := by rw [ehh3]; exact hO.set List.mem_cons_self
        have f2 : ∀ j : Int, 0 ≤ j → ga hh3 c j = if j = k then q2 else ga hI c j := fun j a => by rw [ehh3]; exact ga_sa _ _ _ (by omega) a
        refine hd_lload pkX18_divide rfl rfl ?_
        refine hd_lload pkX18_divide rfl rfl ?_
        refine hd_lrem pkX18_divide rfl (by omega) (by have e9 := emod_of (x := r * 65536 + x9) (y := m) (by omega) (by omega); omega) ?_
        generalize er2 : (Int.tmod ((r * 65536) + x9) m) = r2
        rw [(emod_of (by omega) (by omega)).1] at er2
        refine hd_lstore pkX18_divide rfl rfl ?_
        change MW _ _ _ _ _ [(3, (1, r2)), (6, (1, ((r * 65536) + x9))), (0, (2, ((c : Nat) : Int))), (1, (1, m)), (5, (0, k))] _ _
        refine hd_iinc (z := (-1)) pkX18_divide rfl rfl (by omega) rfl ?_
        change MW _ _ _ _ _ [(5, (0, (k + (-1)))), (3, (1, r2)), (6, (1, ((r * 65536) + x9))), (0, (2, ((c : Nat) : Int))), (1, (1, m))] _ _
        refine hd_goto pkX18_divide rfl ?_
        refine m_sub [(0, (2, ((c : Nat) : Int))), (1, (1, m)), (3, (1, r2)), (5, (0, (k + (-1))))] (List.forall_mem_cons.mpr ⟨rfl, List.forall_mem_cons.mpr ⟨rfl, List.forall_mem_cons.mpr ⟨rfl, List.forall_mem_cons.mpr ⟨rfl, fun _ h => absurd h List.not_mem_nil⟩⟩⟩⟩) ?_
        refine ih4  (r2) ((k + (-1))) hh3 ghh3 ?_ ?_ ?_ ?_ ?_ ?_ ?_ ?_
        · exact o2
        · omega
        · intro j a b
          rw [f2 j a, if_neg (by omega)]
          exact lo j a (by omega)
        · rw [show (63 - (k + -1)).toNat = (63 - k).toNat + 1 by omega]
          show r2 = (ga h c (63 - ((63 - k).toNat : Int)) + 65536 * hv18 (ga h c) (63 - k).toNat) % m
          rw [show (63 : Int) - ((63 - k).toNat : Int) = k by omega, ← rest18, ← er, ← ex9]
          exact er2.symm
        · rw [← er2]
          exact ⟨Int.emod_nonneg _ (by omega), Int.emod_lt_of_pos _ (by omega)⟩
        · intro j a b
          rw [f2 j (by omega)]
          split
          · omega
          · exact hi j (by omega) b
        · rw [show (63 - (k + -1)).toNat = (63 - k).toNat + 1 by omega]
          show ga hh3 c (63 - ((63 - k).toNat : Int)) + 65536 * hv18 (ga hh3 c) (63 - k).toNat = (ga h c (63 - ((63 - k).toNat : Int)) + 65536 * hv18 (ga h c) (63 - k).toNat) / m
          rw [show (63 : Int) - ((63 - k).toNat : Int) = k by omega, quot18 (by omega), ← er, ← ex9, f2 k (by omega), if_pos rfl, ← eq, hv18_cg (f := ga hh3 c) (g := ga hI c) (fun j a b => by rw [f2 j (by omega), if_neg (by omega)])]
          omega
        · omega
  refine m_sub [(0, (2, ((c : Nat) : Int))), (1, (1, m)), (3, (1, 0)), (5, (0, 63))] (List.forall_mem_cons.mpr ⟨rfl, List.forall_mem_cons.mpr ⟨rfl, List.forall_mem_cons.mpr ⟨rfl, List.forall_mem_cons.mpr ⟨rfl, fun _ h => absurd h List.not_mem_nil⟩⟩⟩⟩) ?_
  refine lp4 ((((63) : Int) + 1) + 1).toNat (0) (63) h g ?_ ?_ ?_ ?_ ?_ ?_ ?_ ?_
  · exact Only.refl _ _
  · omega
  · intro j a b
    rfl
  · show (0 : Int) = 0 % m
    rw [Int.zero_emod]
  · omega
  · intro j a b
    omega
  · show (0 : Int) = 0 / m
    rw [Int.zero_ediv]
  · omega
set_option maxRecDepth 20000 in
set_option maxHeartbeats 8000000 in
theorem h_X18_times {h : MH} {c : Nat} (c4 : 4 ≤ c) {m : Int} (hm : 0 ≤ m ∧ m ≤ 2000000) (d : D18 (ga h c)) (g : Str [(c, 0, 64)] [] h) : MCal KX18_times yX18_times 0 0 [(2, ((c : Nat) : Int)), (1, m)] h (mRV fun h' => Only [c] h h' ∧ D18 (ga h' c) ∧ (m * hv18 (ga h c) 64 < 65536 ^ 64 → hv18 (ga h' c) 64 = m * hv18 (ga h c) 64)) := by
  refine MCal.ofMW (Or.inl rfl) ⟨cp_X18, rfl⟩ (Nat.le_of_ble_eq_true rfl) ?_
  generalize eQ : (mRV fun h' => Only [c] h h' ∧ D18 (ga h' c) ∧ (m * hv18 (ga h c) 64 < 65536 ^ 64 → hv18 (ga h' c) 64 = m * hv18 (ga h c) 64) : MO → MH → Prop) = Q
  change MW KX18_times Q 0 0 (pcA pgX18_times 0) [(0, (2, ((c : Nat) : Int))), (1, (1, m))] [] h
  refine hd_locL (i := 1) rfl (fun rm => ?_)
  refine hd_lpush (z := 0) pkX18_times rfl ?_
  refine hd_lstore pkX18_times rfl rfl ?_
  change MW _ _ _ _ _ [(3, (1, 0)), (0, (2, ((c : Nat) : Int))), (1, (1, m))] _ _
  refine hd_ipush (z := 0) pkX18_times rfl ?_
  refine hd_istore pkX18_times rfl rfl ?_
  change MW _ _ _ _ _ [(5, (0, 0)), (3, (1, 0)), (0, (2, ((c : Nat) : Int))), (1, (1, m))] _ _
  have lp4 : ∀ (N4 : Nat) (ca k : Int) (hI : MH), Str [(c, 0, 64)] [] hI → (Only [c] h hI) → (0 ≤ k ∧ k ≤ 64) → (0 ≤ ca ∧ ca ≤ m) → (∀ j : Int, k ≤ j → ga hI c j = ga h c j) → (∀ j : Int, 0 ≤ j → j < k → 0 ≤ ga hI c j ∧ ga hI c j ≤ 65535) → (lv18 (ga hI c) k.toNat + ca * 65536 ^ k.toNat = m * lv18 (ga h c) k.toNat) → (64 : Int) - k < (N4 : Int) → MW KX18_times Q 0 0 (pcA pgX18_times 4) [(0, (2, ((c : Nat) : Int))), (1, (1, m)), (3, (1, ca)), (5, (0, k))] [] hI := by
    intro N4
    induction N4 with
    | zero => intro ca k hI g4 hO k0 cb up lo eq hm4; exfalso; omega
    | succ N4 ih4 =>
      intro ca k hI g4 hO k0 cb up lo eq hm4
      refine hd_iload pkX18_times rfl rfl ?_
      refine hd_ipush (z := 64) pkX18_times rfl ?_
      refine hd_ic_ge pkX18_times rfl (fun c1 => ?_) (fun c1 => ?_)
      · skip
        refine hd_vret pkX18_times rfl ?_
        subst eQ
        have : k = 64 := by omega
        subst this
        have d2 : D18 (ga hI c) := fun j a b => lo j a (by omega)
        refine ⟨rfl, hO, d2, fun b => ?_⟩
        have e1 := lv_hv (f := ga hI c) (k := 64) (Nat.le_refl _)
        have e2 := lv_hv (f := ga h c) (k := 64) (Nat.le_refl _)
        have z : ∀ f : Int → Int, hv18 f (64 - 64) = 0 := fun _ => rfl
        rw [z, Int.mul_zero, Int.add_zero] at e1 e2
        have eq : lv18 (ga hI c) 64 + ca * 65536 ^ 64 = m * lv18 (ga h c) 64 := eq
        rw [e1, e2] at eq
        have nn := (hv18_b d2 (n := 64) (Nat.le_refl _)).1
        have c0 : ca = 0 := by
          by_cases q : ca = 0
          · exact q
          · have := Int.mul_le_mul_of_nonneg_right (show (1 : Int) ≤ ca by omega) (Int.le_of_lt (p18_pos 64))
            omega
        rw [c0, Int.zero_mul, Int.add_zero] at eq
        exact eq
      · skip
        refine hd_lload pkX18_times rfl rfl ?_
        refine hd_aload pkX18_times rfl rfl (Int.natCast_nonneg _) ?_
        refine hd_iload pkX18_times rfl rfl ?_
        refine hd_iald (n := 64) pkX18_times rfl (g4.cell 0 rfl) (by omega) (by omega) (fun v2 ev2 rv2 => ?_)
        obtain ⟨x9, qv2⟩ : ∃ x : Int, x = v2 := ⟨_, rfl⟩
        have ex9 : x9 = ga h c k := (qv2.trans ev2).trans (up k (Int.le_refl _))
        have xb := d k (by omega) (by omega)
        rw [← ex9] at xb
        have xm : 0 ≤ x9 * m ∧ x9 * m ≤ 65535 * m := ⟨Int.mul_nonneg xb.1 (by omega), Int.mul_le_mul_of_nonneg_right xb.2 (by omega)⟩
        subst qv2
        refine hd_i2l pkX18_times rfl ?_
        refine hd_lload pkX18_times rfl rfl ?_
        refine hd_lmul pkX18_times rfl (by omega) ?_
        refine hd_ladd pkX18_times rfl (by omega) ?_
        generalize et9 : (ca + (x9 * m)) = t9
        refine hd_lstore pkX18_times rfl rfl ?_
        change MW _ _ _ _ _ [(3, (1, t9)), (0, (2, ((c : Nat) : Int))), (1, (1, m)), (5, (0, k))] _ _
        refine hd_aload pkX18_times rfl rfl (Int.natCast_nonneg _) ?_
        refine hd_iload pkX18_times rfl rfl ?_
        refine hd_lload pkX18_times rfl rfl ?_
        refine hd_lpush (z := 65535) pkX18_times rfl ?_
        refine hd_land (v := (t9 % 65536)) pkX18_times rfl (by exact h_and16l _) ?_
        refine hd_l2i pkX18_times rfl (by omega) ?_
        refine hd_iast (n := 64) pkX18_times rfl (g4.cell 0 rfl) c4 (by omega) (by omega) (fun hh3 ehh3 => ?_)
        have ghh3 : Str [(c, 0, 64)] [] hh3 := by rw [ehh3]; exact g4.setA rfl
        have o2 : Only [c] h hh3 := by rw [ehh3]; exact hO.set List.mem_cons_self
        have f2 : ∀ j : Int, 0 ≤ j → ga hh3 c j = if j = k then t9 % 65536 else ga hI c j := fun j a => by rw [ehh3]; exact ga_sa _ _ _ (by omega) a
        refine hd_lload pkX18_times rfl rfl ?_
        refine hd_ipush (z := 16) pkX18_times rfl ?_
        refine hd_lshr (v := (t9 / 65536)) pkX18_times rfl (by exact h_shr16l (by omega)) ?_
        refine hd_lstore pkX18_times rfl rfl ?_
        change MW _ _ _ _ _ [(3, (1, (t9 / 65536))), (0, (2, ((c : Nat) : Int))), (1, (1, m)), (5, (0, k))] _ _
        refine hd_iinc (z := 1) pkX18_times rfl rfl (by omega) rfl ?_
        change MW _ _ _ _ _ [(5, (0, (k + 1))), (3, (1, (t9 / 65536))), (0, (2, ((c : Nat) : Int))), (1, (1, m))] _ _
        refine hd_goto pkX18_times rfl ?_
        refine m_sub [(0, (2, ((c : Nat) : Int))), (1, (1, m)), (3, (1, (t9 / 65536))), (5, (0, (k + 1)))] (List.forall_mem_cons.mpr ⟨rfl, List.forall_mem_cons.mpr ⟨rfl, List.forall_mem_cons.mpr ⟨rfl, List.forall_mem_cons.mpr ⟨rfl, fun _ h => absurd h List.not_mem_nil⟩⟩⟩⟩) ?_
        refine ih4  ((t9 / 65536)) ((k + 1)) hh3 ghh3 ?_ ?_ ?_ ?_ ?_ ?_ ?_
        · exact o2
        · omega
        · omega
        · intro j a
          rw [f2 j (by omega), if_neg (by omega)]
          exact up j (by omega)
        · intro j a b
          rw [f2 j a]
          split
          · omega
          · exact lo j a (by omega)
        · have z := times18 (P := lv18 (ga hI c) k.toNat) (c := ca) (x := x9) (b := t9 % 65536) (d := t9 / 65536) eq (by omega)
          rw [show (k + 1).toNat = k.toNat + 1 by omega]
          show lv18 (ga hh3 c) k.toNat + ga hh3 c (k.toNat : Int) * 65536 ^ k.toNat + _ = m * (lv18 (ga h c) k.toNat + ga h c (k.toNat : Int) * 65536 ^ k.toNat)
          rw [show (k.toNat : Int) = k by omega, f2 k (by omega), if_pos rfl, ← ex9, lv18_cg (f := ga hh3 c) (g := ga hI c) (fun j a b => by rw [f2 j a, if_neg (by omega)])]
          exact z
        · omega
  refine m_sub [(0, (2, ((c : Nat) : Int))), (1, (1, m)), (3, (1, 0)), (5, (0, 0))] (List.forall_mem_cons.mpr ⟨rfl, List.forall_mem_cons.mpr ⟨rfl, List.forall_mem_cons.mpr ⟨rfl, List.forall_mem_cons.mpr ⟨rfl, fun _ h => absurd h List.not_mem_nil⟩⟩⟩⟩) ?_
  refine lp4 (((64 : Int) - (0)) + 1).toNat (0) (0) h g ?_ ?_ ?_ ?_ ?_ ?_ ?_
  · exact Only.refl _ _
  · omega
  · omega
  · intro j a
    rfl
  · intro j a b
    omega
  · show (0 : Int) + 0 * 1 = m * 0
    omega
  · omega
set_option maxRecDepth 20000 in
set_option maxHeartbeats 8000000 in
theorem h_X18_timesW {h : MH} {c : Nat} (c4 : 4 ≤ c) {m : Int} (g : Str [(c, 0, 64)] [] h) : MCal KX18_times yX18_times 0 0 [(2, ((c : Nat) : Int)), (1, m)] h (mRV fun h' => Only [c] h h' ∧ D18 (ga h' c)) := by
  refine MCal.ofMW (Or.inl rfl) ⟨cp_X18, rfl⟩ (Nat.le_of_ble_eq_true rfl) ?_
  generalize eQ : (mRV fun h' => Only [c] h h' ∧ D18 (ga h' c) : MO → MH → Prop) = Q
  change MW KX18_times Q 0 0 (pcA pgX18_times 0) [(0, (2, ((c : Nat) : Int))), (1, (1, m))] [] h
  refine hd_locL (i := 1) rfl (fun rm => ?_)
  refine hd_lpush (z := 0) pkX18_times rfl ?_
  refine hd_lstore pkX18_times rfl rfl ?_
  change MW _ _ _ _ _ [(3, (1, 0)), (0, (2, ((c : Nat) : Int))), (1, (1, m))] _ _
  refine hd_ipush (z := 0) pkX18_times rfl ?_
  refine hd_istore pkX18_times rfl rfl ?_
  change MW _ _ _ _ _ [(5, (0, 0)), (3, (1, 0)), (0, (2, ((c : Nat) : Int))), (1, (1, m))] _ _
  have lp4 : ∀ (N4 : Nat) (ca k : Int) (hI : MH), Str [(c, 0, 64)] [] hI → (Only [c] h hI) → (0 ≤ k ∧ k ≤ 64) → (∀ j : Int, 0 ≤ j → j < k → 0 ≤ ga hI c j ∧ ga hI c j ≤ 65535) → (64 : Int) - k < (N4 : Int) → MW KX18_times Q 0 0 (pcA pgX18_times 4) [(0, (2, ((c : Nat) : Int))), (1, (1, m)), (3, (1, ca)), (5, (0, k))] [] hI := by
    intro N4
    induction N4 with
    | zero => intro ca k hI g4 hO k0 lo hm4; exfalso; omega
    | succ N4 ih4 =>
      intro ca k hI g4 hO k0 lo hm4
      refine hd_iload pkX18_times rfl rfl ?_
      refine hd_ipush (z := 64) pkX18_times rfl ?_
      refine hd_ic_ge pkX18_times rfl (fun c1 => ?_) (fun c1 => ?_)
      · skip
        refine hd_vret pkX18_times rfl ?_
        subst eQ
        exact ⟨rfl, hO, fun j a b => lo j a (by omega)⟩
      · skip
        refine hd_lload pkX18_times rfl rfl ?_
        refine hd_aload pkX18_times rfl rfl (Int.natCast_nonneg _) ?_
        refine hd_iload pkX18_times rfl rfl ?_
        refine hd_iald (n := 64) pkX18_times rfl (g4.cell 0 rfl) (by omega) (by omega) (fun v2 ev2 rv2 => ?_)
        refine hd_i2l pkX18_times rfl ?_
        refine hd_lload pkX18_times rfl rfl ?_
        refine hd_lmulW pkX18_times rfl ?_
        refine hd_laddW pkX18_times rfl ?_
        generalize et9 : (wrL (ca + (wrL (v2 * m)))) = t9
        have t9b : -9223372036854775808 ≤ t9 ∧ t9 ≤ 9223372036854775807 := by rw [← et9]; exact wrL_rng _
        refine hd_lstore pkX18_times rfl rfl ?_
        change MW _ _ _ _ _ [(3, (1, t9)), (0, (2, ((c : Nat) : Int))), (1, (1, m)), (5, (0, k))] _ _
        refine hd_aload pkX18_times rfl rfl (Int.natCast_nonneg _) ?_
        refine hd_iload pkX18_times rfl rfl ?_
        refine hd_lload pkX18_times rfl rfl ?_
        refine hd_lpush (z := 65535) pkX18_times rfl ?_
        refine hd_land (v := (t9 % 65536)) pkX18_times rfl (by exact h_and16l _) ?_
        refine hd_l2i pkX18_times rfl (by omega) ?_
        refine hd_iast (n := 64) pkX18_times rfl (g4.cell 0 rfl) c4 (by omega) (by omega) (fun hh3 ehh3 => ?_)
        have ghh3 : Str [(c, 0, 64)] [] hh3 := by rw [ehh3]; exact g4.setA rfl
        have o2 : Only [c] h hh3 := by rw [ehh3]; exact hO.set List.mem_cons_self
        have f2 : ∀ j : Int, 0 ≤ j → ga hh3 c j = if j = k then t9 % 65536 else ga hI c j := fun j a => by rw [ehh3]; exact ga_sa _ _ _ (by omega) a
        refine hd_lload pkX18_times rfl rfl ?_
        refine hd_ipush (z := 16) pkX18_times rfl ?_
        refine hd_lshr (v := (t9 / 65536)) pkX18_times rfl (by exact h_shr16l (by omega)) ?_
        refine hd_lstore pkX18_times rfl rfl ?_
        change MW _ _ _ _ _ [(3, (1, (t9 / 65536))), (0, (2, ((c : Nat) : Int))), (1, (1, m)), (5, (0, k))] _ _
        refine hd_iinc (z := 1) pkX18_times rfl rfl (by omega) rfl ?_
        change MW _ _ _ _ _ [(5, (0, (k + 1))), (3, (1, (t9 / 65536))), (0, (2, ((c : Nat) : Int))), (1, (1, m))] _ _
        refine hd_goto pkX18_times rfl ?_
        refine m_sub [(0, (2, ((c : Nat) : Int))), (1, (1, m)), (3, (1, (t9 / 65536))), (5, (0, (k + 1)))] (List.forall_mem_cons.mpr ⟨rfl, List.forall_mem_cons.mpr ⟨rfl, List.forall_mem_cons.mpr ⟨rfl, List.forall_mem_cons.mpr ⟨rfl, fun _ h => absurd h List.not_mem_nil⟩⟩⟩⟩) ?_
        refine ih4  ((t9 / 65536)) ((k + 1)) hh3 ghh3 ?_ ?_ ?_ ?_
        · exact o2
        · omega
        · intro j a b
          rw [f2 j a]
          split
          · omega
          · exact lo j a (by omega)
        · omega
  refine m_sub [(0, (2, ((c : Nat) : Int))), (1, (1, m)), (3, (1, 0)), (5, (0, 0))] (List.forall_mem_cons.mpr ⟨rfl, List.forall_mem_cons.mpr ⟨rfl, List.forall_mem_cons.mpr ⟨rfl, List.forall_mem_cons.mpr ⟨rfl, fun _ h => absurd h List.not_mem_nil⟩⟩⟩⟩) ?_
  refine lp4 (((64 : Int) - (0)) + 1).toNat (0) (0) h g ?_ ?_ ?_ ?_
  · exact Only.refl _ _
  · omega
  · intro j a b
    omega
  · omega
set_option maxRecDepth 20000 in
set_option maxHeartbeats 8000000 in
theorem h_X18_add {h : MH} {c m : Nat} (c4 : 4 ≤ c) (m4 : 4 ≤ m) (cm : ¬ m = c) (d : D18 (ga h c)) (dm : D18 (ga h m)) (g : Str [(c, 0, 64), (m, 0, 64)] [] h) : MCal KX18_add yX18_add 0 0 [(2, ((c : Nat) : Int)), (2, ((m : Nat) : Int))] h (mRV fun h' => Only [c] h h' ∧ D18 (ga h' c)) := by
  refine MCal.ofMW (Or.inl rfl) ⟨cp_X18, rfl⟩ (Nat.le_of_ble_eq_true rfl) ?_
  generalize eQ : (mRV fun h' => Only [c] h h' ∧ D18 (ga h' c) : MO → MH → Prop) = Q
  change MW KX18_add Q 0 0 (pcA pgX18_add 0) [(0, (2, ((c : Nat) : Int))), (1, (2, ((m : Nat) : Int)))] [] h
  refine hd_ipush (z := 0) pkX18_add rfl ?_
  refine hd_istore pkX18_add rfl rfl ?_
  change MW _ _ _ _ _ [(2, (0, 0)), (0, (2, ((c : Nat) : Int))), (1, (2, ((m : Nat) : Int)))] _ _
  refine hd_ipush (z := 0) pkX18_add rfl ?_
  refine hd_istore pkX18_add rfl rfl ?_
  change MW _ _ _ _ _ [(3, (0, 0)), (2, (0, 0)), (0, (2, ((c : Nat) : Int))), (1, (2, ((m : Nat) : Int)))] _ _
  have lp4 : ∀ (N4 : Nat) (ca k : Int) (hI : MH), Str [(c, 0, 64), (m, 0, 64)] [] hI → (Only [c] h hI) → (0 ≤ k ∧ k ≤ 64) → (0 ≤ ca ∧ ca ≤ 1) → (∀ j : Int, k ≤ j → ga hI c j = ga h c j) → (∀ j : Int, 0 ≤ j → j < k → 0 ≤ ga hI c j ∧ ga hI c j ≤ 65535) → (64 : Int) - k < (N4 : Int) → MW KX18_add Q 0 0 (pcA pgX18_add 4) [(0, (2, ((c : Nat) : Int))), (1, (2, ((m : Nat) : Int))), (2, (0, ca)), (3, (0, k))] [] hI := by
    intro N4
    induction N4 with
    | zero => intro ca k hI g4 hO k0 cb up lo hm4; exfalso; omega
    | succ N4 ih4 =>
      intro ca k hI g4 hO k0 cb up lo hm4
      refine hd_iload pkX18_add rfl rfl ?_
      refine hd_ipush (z := 64) pkX18_add rfl ?_
      refine hd_ic_ge pkX18_add rfl (fun c1 => ?_) (fun c1 => ?_)
      · skip
        refine hd_vret pkX18_add rfl ?_
        subst eQ
        exact ⟨rfl, hO, fun j a b => lo j a (by omega)⟩
      · skip
        refine hd_aload pkX18_add rfl rfl (Int.natCast_nonneg _) ?_
        refine hd_iload pkX18_add rfl rfl ?_
        refine hd_iald (n := 64) pkX18_add rfl (g4.cell 0 rfl) (by omega) (by omega) (fun v2 ev2 rv2 => ?_)
        obtain ⟨x9, qv2⟩ : ∃ x : Int, x = v2 := ⟨_, rfl⟩
        have ex9 : x9 = ga h c k := (qv2.trans ev2).trans (up k (Int.le_refl _))
        have xb := d k (by omega) (by omega)
        rw [← ex9] at xb
        subst qv2
        refine hd_aload pkX18_add rfl rfl (Int.natCast_nonneg _) ?_
        refine hd_iload pkX18_add rfl rfl ?_
        refine hd_iald (n := 64) pkX18_add rfl (g4.cell 1 rfl) (by omega) (by omega) (fun v3 ev3 rv3 => ?_)
        obtain ⟨y9, qv3⟩ : ∃ x : Int, x = v3 := ⟨_, rfl⟩
        have ey9 : y9 = ga h m k := (qv3.trans ev3).trans (hO.ga (by rw [List.mem_singleton]; exact cm) _)
        have yb := dm k (by omega) (by omega)
        rw [← ey9] at yb
        subst qv3
        refine hd_iadd pkX18_add rfl (by omega) ?_
        refine hd_iload pkX18_add rfl rfl ?_
        refine hd_iadd pkX18_add rfl (by omega) ?_
        generalize et9 : ((x9 + y9) + ca) = t9
        refine hd_istore pkX18_add rfl rfl ?_
        change MW _ _ _ _ _ [(4, (0, t9)), (0, (2, ((c : Nat) : Int))), (1, (2, ((m : Nat) : Int))), (2, (0, ca)), (3, (0, k))] _ _
        refine hd_aload pkX18_add rfl rfl (Int.natCast_nonneg _) ?_
        refine hd_iload pkX18_add rfl rfl ?_
        refine hd_iload pkX18_add rfl rfl ?_
        refine hd_ipush (z := 65535) pkX18_add rfl ?_
        refine hd_iand (v := (t9 % 65536)) pkX18_add rfl (by exact h_and16i _) ?_
        refine hd_iast (n := 64) pkX18_add rfl (g4.cell 0 rfl) c4 (by omega) (by omega) (fun hh4 ehh4 => ?_)
        have ghh4 : Str [(c, 0, 64), (m, 0, 64)] [] hh4 := by rw [ehh4]; exact g4.setA rfl
        have o2 : Only [c] h hh4 := by rw [ehh4]; exact hO.set List.mem_cons_self
        have f2 : ∀ j : Int, 0 ≤ j → ga hh4 c j = if j = k then t9 % 65536 else ga hI c j := fun j a => by rw [ehh4]; exact ga_sa _ _ _ (by omega) a
        refine hd_iload pkX18_add rfl rfl ?_
        refine hd_ipush (z := 16) pkX18_add rfl ?_
        refine hd_ishr (v := (t9 / 65536)) pkX18_add rfl (by exact h_shr16i (by omega)) ?_
        refine hd_istore pkX18_add rfl rfl ?_
        change MW _ _ _ _ _ [(2, (0, (t9 / 65536))), (4, (0, t9)), (0, (2, ((c : Nat) : Int))), (1, (2, ((m : Nat) : Int))), (3, (0, k))] _ _
        refine hd_iinc (z := 1) pkX18_add rfl rfl (by omega) rfl ?_
        change MW _ _ _ _ _ [(3, (0, (k + 1))), (2, (0, (t9 / 65536))), (4, (0, t9)), (0, (2, ((c : Nat) : Int))), (1, (2, ((m : Nat) : Int)))] _ _
        refine hd_goto pkX18_add rfl ?_
        refine m_sub [(0, (2, ((c : Nat) : Int))), (1, (2, ((m : Nat) : Int))), (2, (0, (t9 / 65536))), (3, (0, (k + 1)))] (List.forall_mem_cons.mpr ⟨rfl, List.forall_mem_cons.mpr ⟨rfl, List.forall_mem_cons.mpr ⟨rfl, List.forall_mem_cons.mpr ⟨rfl, fun _ h => absurd h List.not_mem_nil⟩⟩⟩⟩) ?_
        refine ih4  ((t9 / 65536)) ((k + 1)) hh4 ghh4 ?_ ?_ ?_ ?_ ?_ ?_
        · exact o2
        · omega
        · omega
        · intro j a
          rw [f2 j (by omega), if_neg (by omega)]
          exact up j (by omega)
        · intro j a b
          rw [f2 j a]
          split
          · omega
          · exact lo j a (by omega)
        · omega
  refine m_sub [(0, (2, ((c : Nat) : Int))), (1, (2, ((m : Nat) : Int))), (2, (0, 0)), (3, (0, 0))] (List.forall_mem_cons.mpr ⟨rfl, List.forall_mem_cons.mpr ⟨rfl, List.forall_mem_cons.mpr ⟨rfl, List.forall_mem_cons.mpr ⟨rfl, fun _ h => absurd h List.not_mem_nil⟩⟩⟩⟩) ?_
  refine lp4 (((64 : Int) - (0)) + 1).toNat (0) (0) h g ?_ ?_ ?_ ?_ ?_ ?_
  · exact Only.refl _ _
  · omega
  · omega
  · intro j a
    rfl
  · intro j a b
    omega
  · omega
set_option maxRecDepth 20000 in
set_option maxHeartbeats 8000000 in
theorem h_X18_divisor {h : MH} {a b : Int} (ha : 1 ≤ a) (hb : 0 ≤ b ∧ b ≤ a) (g : Str t18c r18c h) : MCal KX18_divisor yX18_divisor 0 0 [(1, a), (1, b)] h (mRL fun v h' => (1 ≤ v ∧ v ≤ a) ∧ h' = h) := by
  refine MCal.ofMW (Or.inl rfl) ⟨cp_X18, rfl⟩ (Nat.le_of_ble_eq_true rfl) ?_
  generalize eQ : (mRL fun v h' => (1 ≤ v ∧ v ≤ a) ∧ h' = h : MO → MH → Prop) = Q
  change MW KX18_divisor Q 0 0 (pcA pgX18_divisor 0) [(0, (1, a)), (2, (1, b))] [] h
  refine hd_locL (i := 0) rfl (fun ra => ?_)
  refine hd_locL (i := 2) rfl (fun rb => ?_)
  refine hd_lload pkX18_divisor rfl rfl ?_
  refine hd_lstore pkX18_divisor rfl rfl ?_
  change MW _ _ _ _ _ [(4, (1, a)), (0, (1, a)), (2, (1, b))] _ _
  refine hd_lload pkX18_divisor rfl rfl ?_
  refine hd_lstore pkX18_divisor rfl rfl ?_
  change MW _ _ _ _ _ [(6, (1, b)), (4, (1, a)), (0, (1, a)), (2, (1, b))] _ _
  have lp4 : ∀ (N4 : Nat) (x y : Int), (1 ≤ x ∧ x ≤ a) → (0 ≤ y ∧ y ≤ a) → y < (N4 : Int) → MW KX18_divisor Q 0 0 (pcA pgX18_divisor 4) [(0, (1, a)), (2, (1, b)), (4, (1, x)), (6, (1, y))] [] h := by
    intro N4
    induction N4 with
    | zero => intro x y xb yb hm4; exfalso; omega
    | succ N4 ih4 =>
      intro x y xb yb hm4
      refine hd_lload pkX18_divisor rfl rfl ?_
      refine hd_lpush (z := 0) pkX18_divisor rfl ?_
      refine hd_lc_le pkX18_divisor rfl (fun c1 => ?_) (fun c1 => ?_)
      · skip
        refine hd_lload pkX18_divisor rfl rfl ?_
        refine hd_lret pkX18_divisor rfl ?_
        subst eQ
        exact ⟨rfl, rfl, xb, rfl⟩
      · skip
        refine hd_lload pkX18_divisor rfl rfl ?_
        refine hd_lload pkX18_divisor rfl rfl ?_
        refine hd_lrem pkX18_divisor rfl (by omega) (by have e9 := emod_of (x := x) (y := y) (by omega) (by omega); omega) ?_
        generalize er2 : (Int.tmod x y) = r2
        rw [(emod_of (by omega) (by omega)).1] at er2
        have r9 : 0 ≤ r2 ∧ r2 < y := by rw [← er2]; exact ⟨Int.emod_nonneg _ (by omega), Int.emod_lt_of_pos _ (by omega)⟩
        refine hd_lstore pkX18_divisor rfl rfl ?_
        change MW _ _ _ _ _ [(8, (1, r2)), (0, (1, a)), (2, (1, b)), (4, (1, x)), (6, (1, y))] _ _
        refine hd_lload pkX18_divisor rfl rfl ?_
        refine hd_lstore pkX18_divisor rfl rfl ?_
        change MW _ _ _ _ _ [(4, (1, y)), (8, (1, r2)), (0, (1, a)), (2, (1, b)), (6, (1, y))] _ _
        refine hd_lload pkX18_divisor rfl rfl ?_
        refine hd_lstore pkX18_divisor rfl rfl ?_
        change MW _ _ _ _ _ [(6, (1, r2)), (4, (1, y)), (8, (1, r2)), (0, (1, a)), (2, (1, b))] _ _
        refine hd_goto pkX18_divisor rfl ?_
        refine m_sub [(0, (1, a)), (2, (1, b)), (4, (1, y)), (6, (1, r2))] (List.forall_mem_cons.mpr ⟨rfl, List.forall_mem_cons.mpr ⟨rfl, List.forall_mem_cons.mpr ⟨rfl, List.forall_mem_cons.mpr ⟨rfl, fun _ h => absurd h List.not_mem_nil⟩⟩⟩⟩) ?_
        refine ih4  (y) (r2) ?_ ?_ ?_
        · omega
        · omega
        · omega
  refine m_sub [(0, (1, a)), (2, (1, b)), (4, (1, a)), (6, (1, b))] (List.forall_mem_cons.mpr ⟨rfl, List.forall_mem_cons.mpr ⟨rfl, List.forall_mem_cons.mpr ⟨rfl, List.forall_mem_cons.mpr ⟨rfl, fun _ h => absurd h List.not_mem_nil⟩⟩⟩⟩) ?_
  refine lp4 (((b)) + 1).toNat (a) (b) ?_ ?_ ?_
  · omega
  · omega
  · omega
