/-! logJoin of the reference, and of both desks -/
def nlR (h : MH) (c : Int) : Int := if 0 ≤ c ∧ c < 8 then lnR h c else 0
/-- the reference's lines: how many, in their range; the ranges fall -/
def LQR (h : MH) : Prop := ∀ c : Int, 0 ≤ c → c < 8 → (0 ≤ lnR h c ∧ lnR h c ≤ 4) ∧ (∀ k : Int, 0 ≤ k → k < lnR h c → (1 ≤ rgR h c k ∧ rgR h c k ≤ 2000000) ∧ (1 ≤ cyR h c k ∧ cyR h c k ≤ 1000000)) ∧ ∀ k : Int, 0 ≤ k → k + 1 < lnR h c → rgR h c (k + 1) < rgR h c k
theorem LQ.R {h : MH} (q : LQ h) : LQR h := by
  intro c c0 c8
  obtain ⟨e1, e2⟩ := q.1 c c0 c8
  obtain ⟨b1, b2, b3⟩ := q.2 c c0 c8
  rw [← e1]
  refine ⟨b1, fun k k0 k1 => ?_, fun k k0 k1 => ?_⟩
  · rw [← (e2 k k0 k1).1, ← (e2 k k0 k1).2]
    exact b2 k k0 k1
  · rw [← (e2 k k0 (by omega)).1, ← (e2 (k + 1) (by omega) k1).1]
    exact b3 k k0 k1
theorem c_noClass {h : MH} (x : Int) : MCal KX18_noClass yX18_noClass 0 0 [(0, x)] h (mRI fun v h' => h = h' ∧ v = if 0 ≤ x ∧ x ≤ 7 then 0 else 1) := by
  refine MCal.ofMW (Or.inl rfl) ⟨cp_X18, rfl⟩ (Nat.le_of_ble_eq_true rfl) ?_
  show MW KX18_noClass _ 0 0 (pcA pgX18_noClass 0) [(0, (0, x))] [] h
  have one : ¬ (0 ≤ x ∧ x ≤ 7) → MW KX18_noClass (mRI fun v h' => h = h' ∧ v = if 0 ≤ x ∧ x ≤ 7 then 0 else 1) 0 0 (pcA pgX18_noClass 5) [(0, (0, x))] [] h := fun z => by
    refine hd_ipush (z := 1) pkX18_noClass rfl ?_
    refine hd_goto pkX18_noClass rfl ?_
    exact hd_zret pkX18_noClass rfl (by decide) ⟨rfl, rfl, rfl, (if_neg z).symm⟩
  refine hd_iload pkX18_noClass rfl rfl ?_
  refine hd_if_lt pkX18_noClass rfl (fun c1 => one (by omega)) (fun c1 => ?_)
  refine hd_iload pkX18_noClass rfl rfl ?_
  refine hd_ipush (z := 7) pkX18_noClass rfl ?_
  refine hd_ic_le pkX18_noClass rfl (fun c2 => ?_) (fun c2 => one (by omega))
  refine hd_ipush (z := 0) pkX18_noClass rfl ?_
  exact hd_zret pkX18_noClass rfl (by decide) ⟨rfl, rfl, rfl, (if_pos (⟨by omega, c2⟩ : 0 ≤ x ∧ x ≤ 7)).symm⟩

set_option maxRecDepth 20000 in
set_option maxHeartbeats 8000000 in
theorem w_logJoin {h : MH} (J : JJ zJ h) (q : LQR h) (c : Int) (w : UInt64) : MCal KX18_logJoin yX18_logJoin 0 0 [(2, ((2534 : Nat) : Int)), (0, c), (3, (w.toNat : Int))] h (mRD fun v h' => h' = h ∧ ∃ r : UInt64, v = (r.toNat : Int) ∧ LJ (nlR h c) (rgR h c) (cyR h c) w r) := by
  refine MCal.ofMW (Or.inr (Or.inl rfl)) ⟨cp_X18, rfl⟩ (Nat.le_of_ble_eq_true rfl) ?_
  have g : Str [(2534, 34, 0), (2540, 0, 8), (2541, 1, 32), (2542, 1, 32)] [(2534, 8, 2540), (2534, 9, 2541), (2534, 10, 2542)] h := str_of (by decide +kernel) J.1
  have pk := pkX18_logJoin
  show MW KX18_logJoin _ 0 0 (pcA pgX18_logJoin 0) [(0, (2, ((2534 : Nat) : Int))), (1, (0, c)), (2, (3, (w.toNat : Int)))] [] h
  have ret : ∀ (r : UInt64) (L : List (Nat × MV)) (i : Nat), decode KX18_logJoin.2.2.1 (pcA pgX18_logJoin i) = .ok (.dreturn, 1) → LJ (nlR h c) (rgR h c) (cyR h c) w r → MW KX18_logJoin (mRD fun v h' => h' = h ∧ ∃ r : UInt64, v = (r.toNat : Int) ∧ LJ (nlR h c) (rgR h c) (cyR h c) w r) 0 0 (pcA pgX18_logJoin i) L [(3, (r.toNat : Int))] h := fun r L i d z => m_dreturn (K := KX18_logJoin) d rfl ⟨rfl, rfl, rfl, r, rfl, z⟩
  have low8 : ∀ (L : List (Nat × MV)), LJ (nlR h c) (rgR h c) (cyR h c) w mone → MW KX18_logJoin (mRD fun v h' => h' = h ∧ ∃ r : UInt64, v = (r.toNat : Int) ∧ LJ (nlR h c) (rgR h c) (cyR h c) w r) 0 0 (pcA pgX18_logJoin 8) L [] h := fun L z => m_ldc2d (K := KX18_logJoin) (v := mone) (by decide +kernel) lcX18_176 (hd_pc (by decide +kernel : pcA pgX18_logJoin 8 + 3 = pcA pgX18_logJoin 9) (ret mone L 9 (by decide +kernel) z))
  have low : ∀ (L : List (Nat × MV)), LJ (nlR h c) (rgR h c) (cyR h c) w mone → MW KX18_logJoin (mRD fun v h' => h' = h ∧ ∃ r : UInt64, v = (r.toNat : Int) ∧ LJ (nlR h c) (rgR h c) (cyR h c) w r) 0 0 (pcA pgX18_logJoin 29) L [] h := fun L z => m_ldc2d (K := KX18_logJoin) (v := mone) (by decide +kernel) lcX18_176 (hd_pc (by decide +kernel : pcA pgX18_logJoin 29 + 3 = pcA pgX18_logJoin 30) (ret mone L 30 (by decide +kernel) z))
  refine hd_iload pkX18_logJoin rfl rfl ?_
  refine hd_callS pkX18_logJoin rfl (q := (KX18_noClass, yX18_noClass, 18, 1, 1)) rfl rfl (by decide +kernel) (As := [(0, c)]) (rest := []) rfl rfl (Nat.le_of_ble_eq_true rfl) rfl (c_noClass c) (hd_bI (fun nc h2 p => ?_))
  obtain ⟨rfl, hnc⟩ := p
  refine hd_if_ne pkX18_logJoin rfl (fun z => low8 _ (Or.inl ⟨Or.inl ?_, rfl⟩)) (fun z => ?_)
  · have hz : ¬ (0 ≤ c ∧ c < 8) := fun y => z (hnc.trans (if_pos (⟨y.1, by omega⟩ : 0 ≤ c ∧ c ≤ 7)))
    rw [show nlR h c = 0 from if_neg hz]
    decide
  have hc : 0 ≤ c ∧ c < 8 := by
    by_cases y : 0 ≤ c ∧ c ≤ 7
    · omega
    · exact absurd (hnc.trans (if_neg y)) (by omega)
  obtain ⟨l0, lb, lm⟩ := q c hc.1 hc.2
  have hn := (show nlR h c = lnR h c from if_pos hc)
  generalize hN : lnR h c = n at l0 lb lm hn
  refine hd_aload pkX18_logJoin rfl rfl (Int.natCast_nonneg _) ?_
  refine hd_getR (n := 2540) pkX18_logJoin rfl (g.cell 0 rfl).1 (g.cell 0 rfl).2.1 (g.ref 0 rfl) ?_
  refine hd_iload pkX18_logJoin rfl rfl ?_
  refine hd_iald (c := 2540) (n := 8) pkX18_logJoin rfl ⟨(g.cell 1 rfl).1, (g.cell 1 rfl).2.1, (g.cell 1 rfl).2.2⟩ (by omega) (by omega) (fun v1 ev1 rv1 => ?_)
  have qv1 : v1 = gz h 2540 (c) := ev1.trans (ga_gz (c := 2540) (by omega) (by omega)).symm
  have e1 : v1 = n := qv1.trans hN
  subst e1
  refine hd_if_ne pkX18_logJoin rfl (fun z1 => ?_) (fun z1 => low8 _ (Or.inl ⟨Or.inl (by omega), rfl⟩))
  refine hd_ipush (z := 4) pkX18_logJoin rfl ?_
  refine hd_iload pkX18_logJoin rfl rfl ?_
  refine hd_imul pkX18_logJoin rfl (by omega) ?_
  refine hd_aload pkX18_logJoin rfl rfl (Int.natCast_nonneg _) ?_
  refine hd_getR (n := 2540) pkX18_logJoin rfl (g.cell 0 rfl).1 (g.cell 0 rfl).2.1 (g.ref 0 rfl) ?_
  refine hd_iload pkX18_logJoin rfl rfl ?_
  refine hd_iald (c := 2540) (n := 8) pkX18_logJoin rfl ⟨(g.cell 1 rfl).1, (g.cell 1 rfl).2.1, (g.cell 1 rfl).2.2⟩ (by omega) (by omega) (fun v2 ev2 rv2 => ?_)
  have qv2 : v2 = gz h 2540 (c) := ev2.trans (ga_gz (c := 2540) (by omega) (by omega)).symm
  refine hd_iadd pkX18_logJoin rfl (by omega) ?_
  refine hd_ipush (z := 1) pkX18_logJoin rfl ?_
  refine hd_isub pkX18_logJoin rfl (by omega) ?_
  have e2 : v1 = v2 := (qv2.trans hN).symm
  subst e2
  refine hd_istore pkX18_logJoin rfl rfl ?_
  refine m_dload_n (K := KX18_logJoin) (j := 2) (by decide +kernel) rfl ?_
  refine hd_pc (by decide +kernel : pcA pgX18_logJoin 21 + 1 = pcA pgX18_logJoin 22) ?_
  refine hd_aload pkX18_logJoin rfl rfl (Int.natCast_nonneg _) ?_
  refine hd_getR (n := 2541) pkX18_logJoin rfl (g.cell 0 rfl).1 (g.cell 0 rfl).2.1 (g.ref 1 rfl) ?_
  refine hd_iload pkX18_logJoin rfl rfl ?_
  refine hd_lald (c := 2541) (n := 32) pkX18_logJoin rfl ⟨(g.cell 2 rfl).1, (g.cell 2 rfl).2.1, (g.cell 2 rfl).2.2⟩ (by omega) (by omega) (fun v3 ev3 rv3 => ?_)
  have qv3 : v3 = gz h 2541 ((((4 * c) + v1) - 1)) := ev3.trans (ga_gz (c := 2541) (by omega) (by omega)).symm
  refine m_l2d (K := KX18_logJoin) (by decide +kernel) ?_
  refine hd_pc (by decide +kernel : pcA pgX18_logJoin 26 + 1 = pcA pgX18_logJoin 27) ?_
  rw [show FP.l2d (Int64.ofInt v3) = F64 v3 from rfl]
  have qv3b : v3 = rgR h c (v1 - 1) := qv3.trans (congrArg (gz h 2541) (by omega))
  have bv3 := (lb (v1 - 1) (by omega) (by omega)).1
  refine m_dcmp (K := KX18_logJoin) (op := .l) (by decide +kernel) ?_
  refine hd_pc (by decide +kernel : pcA pgX18_logJoin 27 + 1 = pcA pgX18_logJoin 28) ?_
  rw [show dv ((w).toNat : Int) = w from mDb _, show dv ((F64 v3).toNat : Int) = F64 v3 from mDb _]
  have cy1 := cm_of (w := w) (x := F64 v3) (F64_nn (by omega)) .l
  generalize (Op.cmpValue (FP.dcmp (w) (F64 v3)) .l).toInt = y1 at cy1 ⊢
  refine hd_if_ge pkX18_logJoin rfl (fun z2 => ?_) (fun z2 => ?_)
  rotate_left
  · refine low _ (Or.inl ⟨?_, rfl⟩)
    rw [hn, ← qv3b]
    rcases cy1 with ⟨y, -⟩ | ⟨-, ⟨y, -⟩ | ⟨y, e⟩ | ⟨y, e⟩⟩
    · exact Or.inr (Or.inl y)
    · exact Or.inr (Or.inr y)
    · omega
    · omega
  have t1 : ¬ nanD w ∧ dK (F64 (rgR h c (v1 - 1))) ≤ dK w := by
    rw [← qv3b]
    rcases cy1 with ⟨y, e⟩ | ⟨y, ⟨y2, e⟩ | ⟨y2, e⟩ | ⟨y2, e⟩⟩
    · have e : y1 = -1 := e
      omega
    · omega
    · exact ⟨y, by omega⟩
    · exact ⟨y, by omega⟩
  refine hd_ipush (z := 4) pkX18_logJoin rfl ?_
  refine hd_iload pkX18_logJoin rfl rfl ?_
  refine hd_imul pkX18_logJoin rfl (by omega) ?_
  refine hd_istore pkX18_logJoin rfl rfl ?_
  refine m_dload_n (K := KX18_logJoin) (j := 2) (by decide +kernel) rfl ?_
  refine hd_pc (by decide +kernel : pcA pgX18_logJoin 35 + 1 = pcA pgX18_logJoin 36) ?_
  refine hd_aload pkX18_logJoin rfl rfl (Int.natCast_nonneg _) ?_
  refine hd_getR (n := 2541) pkX18_logJoin rfl (g.cell 0 rfl).1 (g.cell 0 rfl).2.1 (g.ref 1 rfl) ?_
  refine hd_iload pkX18_logJoin rfl rfl ?_
  refine hd_lald (c := 2541) (n := 32) pkX18_logJoin rfl ⟨(g.cell 2 rfl).1, (g.cell 2 rfl).2.1, (g.cell 2 rfl).2.2⟩ (by omega) (by omega) (fun v4 ev4 rv4 => ?_)
  have qv4 : v4 = gz h 2541 ((4 * c)) := ev4.trans (ga_gz (c := 2541) (by omega) (by omega)).symm
  refine m_l2d (K := KX18_logJoin) (by decide +kernel) ?_
  refine hd_pc (by decide +kernel : pcA pgX18_logJoin 40 + 1 = pcA pgX18_logJoin 41) ?_
  rw [show FP.l2d (Int64.ofInt v4) = F64 v4 from rfl]
  have qv4b : v4 = rgR h c 0 := qv4.trans (congrArg (gz h 2541) (by omega))
  have bv4 := (lb 0 (by omega) (by omega)).1
  refine m_dcmp (K := KX18_logJoin) (op := .l) (by decide +kernel) ?_
  refine hd_pc (by decide +kernel : pcA pgX18_logJoin 41 + 1 = pcA pgX18_logJoin 42) ?_
  rw [show dv ((w).toNat : Int) = w from mDb _, show dv ((F64 v4).toNat : Int) = F64 v4 from mDb _]
  have cy2 := cm_of (w := w) (x := F64 v4) (F64_nn (by omega)) .l
  generalize (Op.cmpValue (FP.dcmp (w) (F64 v4)) .l).toInt = y2 at cy2 ⊢
  refine hd_if_lt pkX18_logJoin rfl (fun z3 => ?_) (fun z3 => ?_)
  rotate_left
  · skip
    refine hd_aload pkX18_logJoin rfl rfl (Int.natCast_nonneg _) ?_
    refine hd_getR (n := 2542) pkX18_logJoin rfl (g.cell 0 rfl).1 (g.cell 0 rfl).2.1 (g.ref 2 rfl) ?_
    refine hd_iload pkX18_logJoin rfl rfl ?_
    refine hd_lald (c := 2542) (n := 32) pkX18_logJoin rfl ⟨(g.cell 3 rfl).1, (g.cell 3 rfl).2.1, (g.cell 3 rfl).2.2⟩ (by omega) (by omega) (fun v5 ev5 rv5 => ?_)
    have qv5 : v5 = gz h 2542 ((4 * c)) := ev5.trans (ga_gz (c := 2542) (by omega) (by omega)).symm
    refine m_l2d (K := KX18_logJoin) (by decide +kernel) ?_
    refine hd_pc (by decide +kernel : pcA pgX18_logJoin 47 + 1 = pcA pgX18_logJoin 48) ?_
    rw [show FP.l2d (Int64.ofInt v5) = F64 v5 from rfl]
    have qv5b : v5 = cyR h c 0 := qv5.trans (congrArg (gz h 2542) (by omega))
    refine ret _ _ 48 (by decide +kernel) (Or.inr ⟨by omega, t1.1, by rw [hn]; exact t1.2, Or.inl ⟨?_, by rw [qv5b]⟩⟩)
    rw [← qv4b]
    rcases cy2 with ⟨y, -⟩ | ⟨-, ⟨y, e⟩ | ⟨y, e⟩ | ⟨y, e⟩⟩
    · exact absurd y t1.1
    · omega
    · omega
    · omega
  have t2 : dK w < dK (F64 (rgR h c 0)) := by
    rw [← qv4b]
    rcases cy2 with ⟨y, -⟩ | ⟨-, ⟨y, e⟩ | ⟨y, e⟩ | ⟨y, e⟩⟩
    · exact absurd y t1.1
    · exact y
    · omega
    · omega
  have n2 : 2 ≤ v1 := by
    rcases (show v1 = 1 ∨ 2 ≤ v1 by omega) with y | y
    · have z9 := t1.2
      rw [show v1 - 1 = 0 by omega] at z9
      omega
    · exact y
  have last : ∀ b o6 : Int, 1 ≤ b → b ≤ v1 - 1 → dK (F64 (rgR h c b)) ≤ dK w → dK w < dK (F64 (rgR h c (b - 1))) → MW KX18_logJoin (mRD fun v h' => h' = h ∧ ∃ r : UInt64, v = (r.toNat : Int) ∧ LJ (nlR h c) (rgR h c) (cyR h c) w r) 0 0 (pcA pgX18_logJoin 79) [(6, (0, o6)), (5, (0, 4 * c)), (4, (0, (((4 * c) + v1) - 1))), (0, (2, ((2534 : Nat) : Int))), (1, (0, c)), (2, (3, (w.toNat : Int)))] [(0, 4 * c + (b - 1))] h := by
    intro b o6 b1 bn s1 s2
    have bb := lb b (by omega) (by omega)
    have bp := lb (b - 1) (by omega) (by omega)
    refine hd_istore pkX18_logJoin rfl rfl ?_
    refine hd_aload pkX18_logJoin rfl rfl (Int.natCast_nonneg _) ?_
    refine hd_getR (n := 2542) pkX18_logJoin rfl (g.cell 0 rfl).1 (g.cell 0 rfl).2.1 (g.ref 2 rfl) ?_
    refine hd_iload pkX18_logJoin rfl rfl ?_
    refine hd_ipush (z := 1) pkX18_logJoin rfl ?_
    refine hd_iadd pkX18_logJoin rfl (by omega) ?_
    refine hd_lald (c := 2542) (n := 32) pkX18_logJoin rfl ⟨(g.cell 3 rfl).1, (g.cell 3 rfl).2.1, (g.cell 3 rfl).2.2⟩ (by omega) (by omega) (fun v6 ev6 rv6 => ?_)
    have qv6 : v6 = gz h 2542 (((4 * c + (b - 1)) + 1)) := ev6.trans (ga_gz (c := 2542) (by omega) (by omega)).symm
    have qv6b : v6 = cyR h c b := qv6.trans (congrArg (gz h 2542) (by omega))
    refine hd_aload pkX18_logJoin rfl rfl (Int.natCast_nonneg _) ?_
    refine hd_getR (n := 2542) pkX18_logJoin rfl (g.cell 0 rfl).1 (g.cell 0 rfl).2.1 (g.ref 2 rfl) ?_
    refine hd_iload pkX18_logJoin rfl rfl ?_
    refine hd_lald (c := 2542) (n := 32) pkX18_logJoin rfl ⟨(g.cell 3 rfl).1, (g.cell 3 rfl).2.1, (g.cell 3 rfl).2.2⟩ (by omega) (by omega) (fun v7 ev7 rv7 => ?_)
    have qv7 : v7 = gz h 2542 ((4 * c + (b - 1))) := ev7.trans (ga_gz (c := 2542) (by omega) (by omega)).symm
    have qv7b : v7 = cyR h c (b - 1) := qv7.trans (congrArg (gz h 2542) (by omega))
    refine hd_lsub pkX18_logJoin rfl (by omega) ?_
    refine m_l2d (K := KX18_logJoin) (by decide +kernel) ?_
    refine hd_pc (by decide +kernel : pcA pgX18_logJoin 91 + 1 = pcA pgX18_logJoin 92) ?_
    rw [show FP.l2d (Int64.ofInt (v6 - v7)) = F64 (v6 - v7) from rfl]
    refine m_dstore (K := KX18_logJoin) (i := 7) (pcA pgX18_logJoin 93) (by decide +kernel) (by decide +kernel) (by decide) ?_
    refine hd_aload pkX18_logJoin rfl rfl (Int.natCast_nonneg _) ?_
    refine hd_getR (n := 2542) pkX18_logJoin rfl (g.cell 0 rfl).1 (g.cell 0 rfl).2.1 (g.ref 2 rfl) ?_
    refine hd_iload pkX18_logJoin rfl rfl ?_
    refine hd_lald (c := 2542) (n := 32) pkX18_logJoin rfl ⟨(g.cell 3 rfl).1, (g.cell 3 rfl).2.1, (g.cell 3 rfl).2.2⟩ (by omega) (by omega) (fun v8 ev8 rv8 => ?_)
    have qv8 : v8 = gz h 2542 ((4 * c + (b - 1))) := ev8.trans (ga_gz (c := 2542) (by omega) (by omega)).symm
    have qv8b : v8 = cyR h c (b - 1) := qv8.trans (congrArg (gz h 2542) (by omega))
    refine m_l2d (K := KX18_logJoin) (by decide +kernel) ?_
    refine hd_pc (by decide +kernel : pcA pgX18_logJoin 97 + 1 = pcA pgX18_logJoin 98) ?_
    rw [show FP.l2d (Int64.ofInt v8) = F64 v8 from rfl]
    refine m_dload (K := KX18_logJoin) (i := 7) (by decide +kernel) rfl ?_
    refine hd_pc (by decide +kernel : pcA pgX18_logJoin 98 + 2 = pcA pgX18_logJoin 99) ?_
    refine hd_aload pkX18_logJoin rfl rfl (Int.natCast_nonneg _) ?_
    refine hd_getR (n := 2541) pkX18_logJoin rfl (g.cell 0 rfl).1 (g.cell 0 rfl).2.1 (g.ref 1 rfl) ?_
    refine hd_iload pkX18_logJoin rfl rfl ?_
    refine hd_lald (c := 2541) (n := 32) pkX18_logJoin rfl ⟨(g.cell 2 rfl).1, (g.cell 2 rfl).2.1, (g.cell 2 rfl).2.2⟩ (by omega) (by omega) (fun v9 ev9 rv9 => ?_)
    have qv9 : v9 = gz h 2541 ((4 * c + (b - 1))) := ev9.trans (ga_gz (c := 2541) (by omega) (by omega)).symm
    have qv9b : v9 = rgR h c (b - 1) := qv9.trans (congrArg (gz h 2541) (by omega))
    refine m_l2d (K := KX18_logJoin) (by decide +kernel) ?_
    refine hd_pc (by decide +kernel : pcA pgX18_logJoin 103 + 1 = pcA pgX18_logJoin 104) ?_
    rw [show FP.l2d (Int64.ofInt v9) = F64 v9 from rfl]
    refine m_dload_n (K := KX18_logJoin) (j := 2) (by decide +kernel) rfl ?_
    refine hd_pc (by decide +kernel : pcA pgX18_logJoin 104 + 1 = pcA pgX18_logJoin 105) ?_
    refine m_dsub (K := KX18_logJoin) rfl (by decide +kernel) (fun d10 ad10 => ?_)
    have ad10 : AL d10 (FP.dsub (F64 v9) (w)) := AL_iff.mp (by simp only [dv_n] at ad10; exact ad10)
    refine hd_pc (by decide +kernel : pcA pgX18_logJoin 105 + 1 = pcA pgX18_logJoin 106) ?_
    refine m_dmul (K := KX18_logJoin) rfl (by decide +kernel) (fun d11 ad11 => ?_)
    have ad11 : AL d11 (FP.dmul (F64 (v6 - v7)) (d10)) := AL_iff.mp (by simp only [dv_n] at ad11; exact ad11)
    refine hd_pc (by decide +kernel : pcA pgX18_logJoin 106 + 1 = pcA pgX18_logJoin 107) ?_
    refine hd_aload pkX18_logJoin rfl rfl (Int.natCast_nonneg _) ?_
    refine hd_getR (n := 2541) pkX18_logJoin rfl (g.cell 0 rfl).1 (g.cell 0 rfl).2.1 (g.ref 1 rfl) ?_
    refine hd_iload pkX18_logJoin rfl rfl ?_
    refine hd_lald (c := 2541) (n := 32) pkX18_logJoin rfl ⟨(g.cell 2 rfl).1, (g.cell 2 rfl).2.1, (g.cell 2 rfl).2.2⟩ (by omega) (by omega) (fun v12 ev12 rv12 => ?_)
    have qv12 : v12 = gz h 2541 ((4 * c + (b - 1))) := ev12.trans (ga_gz (c := 2541) (by omega) (by omega)).symm
    have qv12b : v12 = rgR h c (b - 1) := qv12.trans (congrArg (gz h 2541) (by omega))
    refine hd_aload pkX18_logJoin rfl rfl (Int.natCast_nonneg _) ?_
    refine hd_getR (n := 2541) pkX18_logJoin rfl (g.cell 0 rfl).1 (g.cell 0 rfl).2.1 (g.ref 1 rfl) ?_
    refine hd_iload pkX18_logJoin rfl rfl ?_
    refine hd_ipush (z := 1) pkX18_logJoin rfl ?_
    refine hd_iadd pkX18_logJoin rfl (by omega) ?_
    refine hd_lald (c := 2541) (n := 32) pkX18_logJoin rfl ⟨(g.cell 2 rfl).1, (g.cell 2 rfl).2.1, (g.cell 2 rfl).2.2⟩ (by omega) (by omega) (fun v13 ev13 rv13 => ?_)
    have qv13 : v13 = gz h 2541 (((4 * c + (b - 1)) + 1)) := ev13.trans (ga_gz (c := 2541) (by omega) (by omega)).symm
    have qv13b : v13 = rgR h c b := qv13.trans (congrArg (gz h 2541) (by omega))
    refine hd_lsub pkX18_logJoin rfl (by omega) ?_
    refine m_l2d (K := KX18_logJoin) (by decide +kernel) ?_
    refine hd_pc (by decide +kernel : pcA pgX18_logJoin 118 + 1 = pcA pgX18_logJoin 119) ?_
    rw [show FP.l2d (Int64.ofInt (v12 - v13)) = F64 (v12 - v13) from rfl]
    refine m_ddiv (K := KX18_logJoin) rfl (by decide +kernel) (fun d14 ad14 => ?_)
    have ad14 : AL d14 (FP.ddiv (d11) (F64 (v12 - v13))) := AL_iff.mp (by simp only [dv_n] at ad14; exact ad14)
    refine hd_pc (by decide +kernel : pcA pgX18_logJoin 119 + 1 = pcA pgX18_logJoin 120) ?_
    refine m_dadd (K := KX18_logJoin) rfl (by decide +kernel) (fun d15 ad15 => ?_)
    have ad15 : AL d15 (FP.dadd (F64 v8) (d14)) := AL_iff.mp (by simp only [dv_n] at ad15; exact ad15)
    refine hd_pc (by decide +kernel : pcA pgX18_logJoin 120 + 1 = pcA pgX18_logJoin 121) ?_
    refine ret _ _ 121 (by decide +kernel) (Or.inr ⟨by omega, t1.1, by rw [hn]; exact t1.2, Or.inr ⟨t2, b, b1, by omega, s1, s2, d10, d11, d14, ?_, ?_, ?_, ?_⟩⟩)
    · have z := ad10
      simp only [qv6b, qv7b, qv8b, qv9b, qv12b, qv13b] at z
      exact z
    · have z := ad11
      simp only [qv6b, qv7b, qv8b, qv9b, qv12b, qv13b] at z
      exact z
    · have z := ad14
      simp only [qv6b, qv7b, qv8b, qv9b, qv12b, qv13b] at z
      exact z
    · have z := ad15
      simp only [qv6b, qv7b, qv8b, qv9b, qv12b, qv13b] at z
      exact z
  refine hd_iload pkX18_logJoin rfl rfl ?_
  refine hd_ipush (z := 1) pkX18_logJoin rfl ?_
  refine hd_isub pkX18_logJoin rfl (by omega) ?_
  refine hd_istore pkX18_logJoin rfl rfl ?_
  have loop : ∀ (N : Nat) (b : Int), 1 ≤ b → b ≤ v1 - 1 → b ≤ (N : Int) → dK (F64 (rgR h c b)) ≤ dK w → MW KX18_logJoin (mRD fun v h' => h' = h ∧ ∃ r : UInt64, v = (r.toNat : Int) ∧ LJ (nlR h c) (rgR h c) (cyR h c) w r) 0 0 (pcA pgX18_logJoin 53) [(6, (0, 4 * c + (b - 1))), (5, (0, 4 * c)), (4, (0, (((4 * c) + v1) - 1))), (0, (2, ((2534 : Nat) : Int))), (1, (0, c)), (2, (3, (w.toNat : Int)))] [] h := by
    intro N
    induction N with
    | zero => intro b b1 bn hm; omega
    | succ N ih =>
      intro b b1 bn hm s1
      have bp := lb (b - 1) (by omega) (by omega)
      refine m_dload_n (K := KX18_logJoin) (j := 2) (by decide +kernel) rfl ?_
      refine hd_pc (by decide +kernel : pcA pgX18_logJoin 53 + 1 = pcA pgX18_logJoin 54) ?_
      refine hd_aload pkX18_logJoin rfl rfl (Int.natCast_nonneg _) ?_
      refine hd_getR (n := 2541) pkX18_logJoin rfl (g.cell 0 rfl).1 (g.cell 0 rfl).2.1 (g.ref 1 rfl) ?_
      refine hd_iload pkX18_logJoin rfl rfl ?_
      refine hd_lald (c := 2541) (n := 32) pkX18_logJoin rfl ⟨(g.cell 2 rfl).1, (g.cell 2 rfl).2.1, (g.cell 2 rfl).2.2⟩ (by omega) (by omega) (fun v16 ev16 rv16 => ?_)
      have qv16 : v16 = gz h 2541 ((4 * c + (b - 1))) := ev16.trans (ga_gz (c := 2541) (by omega) (by omega)).symm
      refine m_l2d (K := KX18_logJoin) (by decide +kernel) ?_
      refine hd_pc (by decide +kernel : pcA pgX18_logJoin 58 + 1 = pcA pgX18_logJoin 59) ?_
      rw [show FP.l2d (Int64.ofInt v16) = F64 v16 from rfl]
      have qv16b : v16 = rgR h c (b - 1) := qv16
      refine m_dcmp (K := KX18_logJoin) (op := .l) (by decide +kernel) ?_
      refine hd_pc (by decide +kernel : pcA pgX18_logJoin 59 + 1 = pcA pgX18_logJoin 60) ?_
      rw [show dv ((w).toNat : Int) = w from mDb _, show dv ((F64 v16).toNat : Int) = F64 v16 from mDb _]
      have cy3 := cm_of (w := w) (x := F64 v16) (F64_nn (by omega)) .l
      generalize (Op.cmpValue (FP.dcmp (w) (F64 v16)) .l).toInt = y3 at cy3 ⊢
      refine hd_if_le pkX18_logJoin rfl (fun z4 => ?_) (fun z4 => ?_)
      rotate_left
      · skip
        refine hd_iinc (z := -1) pkX18_logJoin rfl rfl (by omega) rfl ?_
        refine hd_goto pkX18_logJoin rfl ?_
        have s3 : dK (F64 (rgR h c (b - 1))) < dK w := by
          rw [← qv16b]
          rcases cy3 with ⟨y, -⟩ | ⟨-, ⟨y, e⟩ | ⟨y, e⟩ | ⟨y, e⟩⟩
          · exact absurd y t1.1
          · omega
          · omega
          · exact y
        have b2 : 2 ≤ b := by
          rcases (show b = 1 ∨ 2 ≤ b by omega) with y | y
          · subst y
            rw [show (1 : Int) - 1 = 0 by decide] at s3
            omega
          · exact y
        rw [show 4 * c + (b - 1) + -1 = 4 * c + ((b - 1) - 1) by omega]
        refine m_sub [(6, (0, 4 * c + ((b - 1) - 1))), (5, (0, 4 * c)), (4, (0, (((4 * c) + v1) - 1))), (0, (2, ((2534 : Nat) : Int))), (1, (0, c)), (2, (3, (w.toNat : Int)))] (List.forall_mem_cons.mpr ⟨rfl, List.forall_mem_cons.mpr ⟨rfl, List.forall_mem_cons.mpr ⟨rfl, List.forall_mem_cons.mpr ⟨rfl, List.forall_mem_cons.mpr ⟨rfl, List.forall_mem_cons.mpr ⟨rfl, fun _ z => absurd z List.not_mem_nil⟩⟩⟩⟩⟩⟩) ?_
        exact ih (b - 1) (by omega) (by omega) (by omega) (by omega)
      have s2 : dK w ≤ dK (F64 (rgR h c (b - 1))) := by
        rw [← qv16b]
        rcases cy3 with ⟨y, -⟩ | ⟨-, ⟨y, e⟩ | ⟨y, e⟩ | ⟨y, e⟩⟩
        · exact absurd y t1.1
        · omega
        · omega
        · omega
      refine m_dload_n (K := KX18_logJoin) (j := 2) (by decide +kernel) rfl ?_
      refine hd_pc (by decide +kernel : pcA pgX18_logJoin 63 + 1 = pcA pgX18_logJoin 64) ?_
      refine hd_aload pkX18_logJoin rfl rfl (Int.natCast_nonneg _) ?_
      refine hd_getR (n := 2541) pkX18_logJoin rfl (g.cell 0 rfl).1 (g.cell 0 rfl).2.1 (g.ref 1 rfl) ?_
      refine hd_iload pkX18_logJoin rfl rfl ?_
      refine hd_lald (c := 2541) (n := 32) pkX18_logJoin rfl ⟨(g.cell 2 rfl).1, (g.cell 2 rfl).2.1, (g.cell 2 rfl).2.2⟩ (by omega) (by omega) (fun v17 ev17 rv17 => ?_)
      have qv17 : v17 = gz h 2541 ((4 * c + (b - 1))) := ev17.trans (ga_gz (c := 2541) (by omega) (by omega)).symm
      refine m_l2d (K := KX18_logJoin) (by decide +kernel) ?_
      refine hd_pc (by decide +kernel : pcA pgX18_logJoin 68 + 1 = pcA pgX18_logJoin 69) ?_
      rw [show FP.l2d (Int64.ofInt v17) = F64 v17 from rfl]
      have qv17b : v17 = rgR h c (b - 1) := qv17
      refine m_dcmp (K := KX18_logJoin) (op := .l) (by decide +kernel) ?_
      refine hd_pc (by decide +kernel : pcA pgX18_logJoin 69 + 1 = pcA pgX18_logJoin 70) ?_
      rw [show dv ((w).toNat : Int) = w from mDb _, show dv ((F64 v17).toNat : Int) = F64 v17 from mDb _]
      have cy4 := cm_of (w := w) (x := F64 v17) (F64_nn (by omega)) .l
      generalize (Op.cmpValue (FP.dcmp (w) (F64 v17)) .l).toInt = y4 at cy4 ⊢
      refine hd_if_ne pkX18_logJoin rfl (fun z5 => ?_) (fun z5 => ?_)
      · refine hd_iload pkX18_logJoin rfl rfl ?_
        refine last b _ b1 bn s1 ?_
        rw [← qv17b] at s2 ⊢
        rcases cy4 with ⟨y, -⟩ | ⟨-, ⟨y, e⟩ | ⟨y, e⟩ | ⟨y, e⟩⟩
        · exact absurd y t1.1
        · exact y
        · omega
        · omega
      have s4 : dK w = dK (F64 (rgR h c (b - 1))) := by
        rw [← qv17b]
        rcases cy4 with ⟨y, -⟩ | ⟨-, ⟨y, e⟩ | ⟨y, e⟩ | ⟨y, e⟩⟩
        · exact absurd y t1.1
        · omega
        · exact y
        · omega
      have b2 : 2 ≤ b := by
        rcases (show b = 1 ∨ 2 ≤ b by omega) with y | y
        · subst y
          rw [show (1 : Int) - 1 = 0 by decide] at s4
          omega
        · exact y
      refine hd_iload pkX18_logJoin rfl rfl ?_
      refine hd_iload pkX18_logJoin rfl rfl ?_
      refine hd_ic_le pkX18_logJoin rfl (fun z6 => by exfalso; omega) (fun z6 => ?_)
      refine hd_iload pkX18_logJoin rfl rfl ?_
      refine hd_ipush (z := 1) pkX18_logJoin rfl ?_
      refine hd_isub pkX18_logJoin rfl (by omega) ?_
      refine hd_goto pkX18_logJoin rfl ?_
      rw [show 4 * c + (b - 1) - 1 = 4 * c + ((b - 1) - 1) by omega]
      have bq := lb (b - 1 - 1) (by omega) (by omega)
      refine last (b - 1) _ (by omega) (by omega) (by omega) ?_
      rw [s4]
      exact F64_lt (by omega) (by omega) (by have := lm (b - 1 - 1) (by omega) (by omega); rw [show b - 1 - 1 + 1 = b - 1 by omega] at this; exact this)
  have e9 : (((4 * c) + v1) - 1) - 1 = 4 * c + ((v1 - 1) - 1) := by omega
  rw [e9]
  refine m_sub [(6, (0, 4 * c + ((v1 - 1) - 1))), (5, (0, 4 * c)), (4, (0, (((4 * c) + v1) - 1))), (0, (2, ((2534 : Nat) : Int))), (1, (0, c)), (2, (3, (w.toNat : Int)))] (List.forall_mem_cons.mpr ⟨rfl, List.forall_mem_cons.mpr ⟨rfl, List.forall_mem_cons.mpr ⟨rfl, List.forall_mem_cons.mpr ⟨rfl, List.forall_mem_cons.mpr ⟨rfl, List.forall_mem_cons.mpr ⟨rfl, fun _ z => absurd z List.not_mem_nil⟩⟩⟩⟩⟩⟩) ?_
  exact loop v1.toNat (v1 - 1) (by omega) (by omega) (by omega) t1.2
