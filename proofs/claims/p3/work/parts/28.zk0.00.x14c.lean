abbrev t14 : List (Nat × Nat × Nat) := [(2495, 30, 0), (2496, 0, 48300), (2497, 0, 690), (2498, 0, 3), (2499, 0, 3), (2500, 2, 4), (2501, 2, 4), (2502, 2, 6), (2503, 0, 4), (2504, 0, 50), (2505, 0, 8), (2506, 0, 8), (2507, 0, 8), (2508, 0, 12), (2509, 0, 3), (2510, 0, 3), (2511, 2, 4), (2512, 2, 4), (2513, 2, 6)]
abbrev r14 : List (Nat × Nat × Nat) := [(2495, 1, 2496), (2495, 2, 2497), (2495, 4, 2498), (2495, 5, 2499), (2495, 6, 2500), (2495, 7, 2501), (2495, 8, 2502), (2495, 9, 2503), (2495, 11, 2504), (2495, 13, 2505), (2495, 14, 2506), (2495, 15, 2507), (2495, 19, 2508), (2495, 21, 2509), (2495, 22, 2510), (2495, 23, 2511), (2495, 24, 2512), (2495, 25, 2513)]
set_option maxRecDepth 20000 in
set_option maxHeartbeats 8000000 in
theorem h_X14_limb {h : MH} {n k : Int} (hn : 0 ≤ n) (hn2 : n < 690) (h1 : 0 ≤ sz (ga h 2496) 70 n) (h2 : sz (ga h 2496) 70 n < 70) (hk : 0 ≤ k) (g : Str t14 r14 h) : MCal KX14_limb yX14_limb 0 0 [(2, ((2495 : Nat) : Int)), (0, n), (0, k)] h (mRI fun v h' => v = lb (ga h 2496) 70 n k ∧ h' = h) := by
  refine MCal.ofMW (Or.inl rfl) ⟨cp_X14, rfl⟩ (Nat.le_of_ble_eq_true rfl) ?_
  generalize eQ : (mRI fun v h' => v = lb (ga h 2496) 70 n k ∧ h' = h : MO → MH → Prop) = Q
  change MW KX14_limb Q 0 0 (pcA pgX14_limb 0) [(0, (2, ((2495 : Nat) : Int))), (1, (0, n)), (2, (0, k))] [] h
  refine hd_locI (i := 1) rfl (fun rn => ?_)
  refine hd_locI (i := 2) rfl (fun rk => ?_)
  have zz : sz (ga h 2496) 70 n = ga h 2496 (70 * n) := rfl
  refine hd_iload pkX14_limb rfl rfl ?_
  refine hd_aload pkX14_limb rfl rfl (Int.natCast_nonneg _) ?_
  refine hd_getR (n := 2496) pkX14_limb rfl (g.cell 0 rfl).1 (g.cell 0 rfl).2.1 (g.ref 0 rfl) ?_
  refine hd_ipush (z := 70) pkX14_limb rfl ?_
  refine hd_iload pkX14_limb rfl rfl ?_
  refine hd_imul pkX14_limb rfl (by omega) ?_
  refine hd_iald (n := 48300) pkX14_limb rfl (g.cell 1 rfl) (by omega) (by omega) (fun v1 ev1 rv1 => ?_)
  refine hd_ic_gt pkX14_limb rfl (fun c2 => ?_) (fun c2 => ?_)
  · skip
    refine hd_ipush (z := 0) pkX14_limb rfl ?_
    refine hd_iret pkX14_limb rfl ?_
    subst eQ
    refine ⟨rfl, rfl, ?_, rfl⟩
    show _ = lb _ _ _ _
    unfold lb
    rw [if_neg (by omega)]
  · skip
    refine hd_aload pkX14_limb rfl rfl (Int.natCast_nonneg _) ?_
    refine hd_getR (n := 2496) pkX14_limb rfl (g.cell 0 rfl).1 (g.cell 0 rfl).2.1 (g.ref 0 rfl) ?_
    refine hd_ipush (z := 70) pkX14_limb rfl ?_
    refine hd_iload pkX14_limb rfl rfl ?_
    refine hd_imul pkX14_limb rfl (by omega) ?_
    refine hd_iload pkX14_limb rfl rfl ?_
    refine hd_iadd pkX14_limb rfl (by omega) ?_
    refine hd_iald (n := 48300) pkX14_limb rfl (g.cell 1 rfl) (by omega) (by omega) (fun v3 ev3 rv3 => ?_)
    refine hd_goto pkX14_limb rfl ?_
    refine hd_iret pkX14_limb rfl ?_
    subst eQ
    refine ⟨rfl, rfl, ?_, rfl⟩
    show _ = lb _ _ _ _
    unfold lb
    rw [if_pos (by omega)]
    assumption
set_option maxRecDepth 20000 in
set_option maxHeartbeats 8000000 in
theorem h_X14_longer {h : MH} {a b : Int} (ha : 0 ≤ a) (ha2 : a < 690) (hb : 0 ≤ b) (hb2 : b < 690) (g : Str t14 r14 h) : MCal KX14_longer yX14_longer 0 0 [(2, ((2495 : Nat) : Int)), (0, a), (0, b)] h (mRI fun v h' => v = (if sz (ga h 2496) 70 b < sz (ga h 2496) 70 a then sz (ga h 2496) 70 a else sz (ga h 2496) 70 b) ∧ h' = h) := by
  refine MCal.ofMW (Or.inl rfl) ⟨cp_X14, rfl⟩ (Nat.le_of_ble_eq_true rfl) ?_
  generalize eQ : (mRI fun v h' => v = (if sz (ga h 2496) 70 b < sz (ga h 2496) 70 a then sz (ga h 2496) 70 a else sz (ga h 2496) 70 b) ∧ h' = h : MO → MH → Prop) = Q
  change MW KX14_longer Q 0 0 (pcA pgX14_longer 0) [(0, (2, ((2495 : Nat) : Int))), (1, (0, a)), (2, (0, b))] [] h
  refine hd_locI (i := 1) rfl (fun ra => ?_)
  refine hd_locI (i := 2) rfl (fun rb => ?_)
  have za : sz (ga h 2496) 70 a = ga h 2496 (70 * a) := rfl
  have zb : sz (ga h 2496) 70 b = ga h 2496 (70 * b) := rfl
  refine hd_aload pkX14_longer rfl rfl (Int.natCast_nonneg _) ?_
  refine hd_getR (n := 2496) pkX14_longer rfl (g.cell 0 rfl).1 (g.cell 0 rfl).2.1 (g.ref 0 rfl) ?_
  refine hd_ipush (z := 70) pkX14_longer rfl ?_
  refine hd_iload pkX14_longer rfl rfl ?_
  refine hd_imul pkX14_longer rfl (by omega) ?_
  refine hd_iald (n := 48300) pkX14_longer rfl (g.cell 1 rfl) (by omega) (by omega) (fun v1 ev1 rv1 => ?_)
  refine hd_aload pkX14_longer rfl rfl (Int.natCast_nonneg _) ?_
  refine hd_getR (n := 2496) pkX14_longer rfl (g.cell 0 rfl).1 (g.cell 0 rfl).2.1 (g.ref 0 rfl) ?_
  refine hd_ipush (z := 70) pkX14_longer rfl ?_
  refine hd_iload pkX14_longer rfl rfl ?_
  refine hd_imul pkX14_longer rfl (by omega) ?_
  refine hd_iald (n := 48300) pkX14_longer rfl (g.cell 1 rfl) (by omega) (by omega) (fun v2 ev2 rv2 => ?_)
  refine hd_ic_le pkX14_longer rfl (fun c3 => ?_) (fun c3 => ?_)
  · skip
    refine hd_aload pkX14_longer rfl rfl (Int.natCast_nonneg _) ?_
    refine hd_getR (n := 2496) pkX14_longer rfl (g.cell 0 rfl).1 (g.cell 0 rfl).2.1 (g.ref 0 rfl) ?_
    refine hd_ipush (z := 70) pkX14_longer rfl ?_
    refine hd_iload pkX14_longer rfl rfl ?_
    refine hd_imul pkX14_longer rfl (by omega) ?_
    refine hd_iald (n := 48300) pkX14_longer rfl (g.cell 1 rfl) (by omega) (by omega) (fun v4 ev4 rv4 => ?_)
    refine hd_iret pkX14_longer rfl ?_
    subst eQ
    refine ⟨rfl, rfl, ?_, rfl⟩
    show v4 = if _ then _ else _
    split <;> omega
  · skip
    refine hd_aload pkX14_longer rfl rfl (Int.natCast_nonneg _) ?_
    refine hd_getR (n := 2496) pkX14_longer rfl (g.cell 0 rfl).1 (g.cell 0 rfl).2.1 (g.ref 0 rfl) ?_
    refine hd_ipush (z := 70) pkX14_longer rfl ?_
    refine hd_iload pkX14_longer rfl rfl ?_
    refine hd_imul pkX14_longer rfl (by omega) ?_
    refine hd_iald (n := 48300) pkX14_longer rfl (g.cell 1 rfl) (by omega) (by omega) (fun v5 ev5 rv5 => ?_)
    refine hd_goto pkX14_longer rfl ?_
    refine hd_iret pkX14_longer rfl ?_
    subst eQ
    refine ⟨rfl, rfl, ?_, rfl⟩
    show v5 = if _ then _ else _
    split <;> omega
set_option maxRecDepth 20000 in
set_option maxHeartbeats 8000000 in
theorem h_X14_isEven {h : MH} {a : Int} (ha : 0 ≤ a) (ha2 : a < 690) (h1 : 0 ≤ sz (ga h 2496) 70 a) (h2 : sz (ga h 2496) 70 a < 70) (g : Str t14 r14 h) : MCal KX14_isEven yX14_isEven 0 0 [(2, ((2495 : Nat) : Int)), (0, a)] h (mRI fun v h' => (v = if lb (ga h 2496) 70 a 1 % 2 = 0 then 1 else 0) ∧ h' = h) := by
  refine MCal.ofMW (Or.inl rfl) ⟨cp_X14, rfl⟩ (Nat.le_of_ble_eq_true rfl) ?_
  generalize eQ : (mRI fun v h' => (v = if lb (ga h 2496) 70 a 1 % 2 = 0 then 1 else 0) ∧ h' = h : MO → MH → Prop) = Q
  change MW KX14_isEven Q 0 0 (pcA pgX14_isEven 0) [(0, (2, ((2495 : Nat) : Int))), (1, (0, a))] [] h
  refine hd_locI (i := 1) rfl (fun ra => ?_)
  refine hd_aload pkX14_isEven rfl rfl (Int.natCast_nonneg _) ?_
  refine hd_iload pkX14_isEven rfl rfl ?_
  refine hd_ipush (z := 1) pkX14_isEven rfl ?_
  refine hd_callV pkX14_isEven rfl (q := (KX14_limb, yX14_limb, 14, 2, 0)) rfl rfl rfl (As := [(0, a), (0, 1)]) (rest := []) (c := 2495) rfl rfl (Nat.le_of_ble_eq_true rfl) (g.cell 0 rfl).1 (g.cell 0 rfl).2.1 (h_X14_limb ha ha2 h1 h2 (by decide) g) (hd_bI (fun w1 hc2 p3 => ?_))
  obtain ⟨p3, ehc2⟩ := p3
  replace ehc2 := ehc2.symm
  subst ehc2
  refine hd_ipush (z := 1) pkX14_isEven rfl ?_
  refine hd_iand (v := (w1 % 2)) pkX14_isEven rfl (by exact h_and1 _) ?_
  refine hd_if_ne pkX14_isEven rfl (fun c4 => ?_) (fun c4 => ?_)
  · skip
    refine hd_ipush (z := 0) pkX14_isEven rfl ?_
    refine hd_zret pkX14_isEven rfl (by omega) ?_
    subst eQ
    refine ⟨rfl, rfl, ?_, rfl⟩
    show (0 : Int) = if lb (ga h 2496) 70 a 1 % 2 = 0 then 1 else 0
    split <;> omega
  · skip
    refine hd_ipush (z := 1) pkX14_isEven rfl ?_
    refine hd_goto pkX14_isEven rfl ?_
    refine hd_zret pkX14_isEven rfl (by omega) ?_
    subst eQ
    refine ⟨rfl, rfl, ?_, rfl⟩
    show (1 : Int) = if lb (ga h 2496) 70 a 1 % 2 = 0 then 1 else 0
    split <;> omega
set_option maxRecDepth 20000 in
set_option maxHeartbeats 8000000 in
theorem h_X14_trim {h : MH} {n l : Int} (hn : 0 ≤ n) (hn2 : n < 690) (h0 : 0 ≤ l) (hl : l < 70) (hd : Dg (ga h 2496) 70 n l) (g : Str t14 r14 h) : MCal KX14_trim yX14_trim 0 0 [(2, ((2495 : Nat) : Int)), (0, n), (0, l)] h (mRV fun h' => Ch 70 2496 2497 [n] h h' ∧ Num (ga h' 2496) 70 n ∧ vl (ga h' 2496) 70 n = bl (lm (ga h 2496) 70 n) l.toNat ∧ sz (ga h' 2496) 70 n ≤ l ∧ ga h' 2497 n = (if sz (ga h' 2496) 70 n = 0 then 0 else ga h 2497 n)) := by
  refine MCal.ofMW (Or.inl rfl) ⟨cp_X14, rfl⟩ (Nat.le_of_ble_eq_true rfl) ?_
  generalize eQ : (mRV fun h' => Ch 70 2496 2497 [n] h h' ∧ Num (ga h' 2496) 70 n ∧ vl (ga h' 2496) 70 n = bl (lm (ga h 2496) 70 n) l.toNat ∧ sz (ga h' 2496) 70 n ≤ l ∧ ga h' 2497 n = (if sz (ga h' 2496) 70 n = 0 then 0 else ga h 2497 n) : MO → MH → Prop) = Q
  change MW KX14_trim Q 0 0 (pcA pgX14_trim 0) [(0, (2, ((2495 : Nat) : Int))), (1, (0, n)), (2, (0, l))] [] h
  refine hd_locI (i := 1) rfl (fun rn => ?_)
  refine hd_locI (i := 2) rfl (fun rl => ?_)
  refine hd_iload pkX14_trim rfl rfl ?_
  refine hd_istore pkX14_trim rfl rfl ?_
  change MW _ _ _ _ _ [(3, (0, l)), (0, (2, ((2495 : Nat) : Int))), (1, (0, n)), (2, (0, l))] _ _
  have lp2 : ∀ (N2 : Nat) (k : Int), (0 ≤ k) → (k ≤ l) → (∀ j : Int, k < j → j ≤ l → lm (ga h 2496) 70 n j = 0) → k < (N2 : Int) → MW KX14_trim Q 0 0 (pcA pgX14_trim 2) [(0, (2, ((2495 : Nat) : Int))), (1, (0, n)), (2, (0, l)), (3, (0, k))] [] h := by
    intro N2
    induction N2 with
    | zero => intro k k0 k1 kz hm2; exfalso; omega
    | succ N2 ih2 =>
      intro k k0 k1 kz hm2
      refine hd_iload pkX14_trim rfl rfl ?_
      refine hd_if_le pkX14_trim rfl (fun c1 => ?_) (fun c1 => ?_)
      · skip
        refine hd_aload pkX14_trim rfl rfl (Int.natCast_nonneg _) ?_
        refine hd_getR (n := 2496) pkX14_trim rfl (g.cell 0 rfl).1 (g.cell 0 rfl).2.1 (g.ref 0 rfl) ?_
        refine hd_ipush (z := 70) pkX14_trim rfl ?_
        refine hd_iload pkX14_trim rfl rfl ?_
        refine hd_imul pkX14_trim rfl (by omega) ?_
        refine hd_iload pkX14_trim rfl rfl ?_
        refine hd_iast (n := 48300) pkX14_trim rfl (g.cell 1 rfl) (by decide) (by omega) (by omega) (fun hh2 ehh2 => ?_)
        have ghh2 : Str t14 r14 hh2 := by rw [ehh2]; exact g.setA rfl
        refine hd_aload pkX14_trim rfl rfl (Int.natCast_nonneg _) ?_
        refine hd_getR (n := 2497) pkX14_trim rfl (ghh2.cell 0 rfl).1 (ghh2.cell 0 rfl).2.1 (ghh2.ref 1 rfl) ?_
        refine hd_iload pkX14_trim rfl rfl ?_
        refine hd_iload pkX14_trim rfl rfl ?_
        refine hd_if_ne pkX14_trim rfl (fun c3 => ?_) (fun c3 => ?_)
        · skip
          refine hd_aload pkX14_trim rfl rfl (Int.natCast_nonneg _) ?_
          refine hd_getR (n := 2497) pkX14_trim rfl (ghh2.cell 0 rfl).1 (ghh2.cell 0 rfl).2.1 (ghh2.ref 1 rfl) ?_
          refine hd_iload pkX14_trim rfl rfl ?_
          refine hd_iald (n := 690) pkX14_trim rfl (ghh2.cell 2 rfl) (by omega) (by omega) (fun v4 ev4 rv4 => ?_)
          refine hd_iast (n := 690) pkX14_trim rfl (ghh2.cell 2 rfl) (by decide) (by omega) (by omega) (fun hh5 ehh5 => ?_)
          have ghh5 : Str t14 r14 hh5 := by rw [ehh5]; exact ghh2.setA rfl
          refine hd_vret pkX14_trim rfl ?_
          subst eQ
          have ht : k = 0 ∨ lm (ga h 2496) 70 n k ≠ 0 := by
            show k = 0 ∨ ga h 2496 (70 * n + k) ≠ 0
            omega
          have oo : Only [2496, 2497] h hh5 := by
            subst ehh5 ehh2
            exact (Only.refl _ _).set (by decide) |>.set (by decide)
          have ez : ∀ i : Int, 0 ≤ i → ga hh5 2496 i = if i = 70 * n then k else ga h 2496 i := fun i hi => by
            subst ehh5 ehh2
            rw [ga_ne _ _ _ _ (by decide), ga_sa _ _ _ (by omega) hi]
          have es : ∀ j : Int, 0 ≤ j → ga hh5 2497 j = if j = n then v4 else ga h 2497 j := fun j hj => by
            subst ehh5 ehh2
            rw [ga_sa _ _ _ hn hj, ga_ne _ _ _ _ (by decide)]
          have ss : v4 = if k = 0 then 0 else ga h 2497 n := by
            subst ehh5 ehh2
            try rw [ga_ne _ _ _ _ (by decide)] at *
            split <;> omega
          have T := trim_num (Z := ga h 2496) (Z' := ga hh5 2496) (by decide) hn k0 k1 hl hd kz ht (by rw [ez _ (by omega), if_pos rfl]) (fun i p q => by rw [ez i p, if_neg q])
          refine ⟨rfl, ⟨oo, fun i p q => ?_, fun j p q => ?_⟩, T.1, T.2.1, by rw [T.2.2]; exact k1, ?_⟩
          · rw [ez i p, if_neg]
            have := q n List.mem_cons_self
            omega
          · rw [es j p, if_neg]
            exact fun e => q (e ▸ List.mem_cons_self)
          · rw [es n hn, if_pos rfl, T.2.2]
            exact ss
        · skip
          refine hd_ipush (z := 0) pkX14_trim rfl ?_
          refine hd_goto pkX14_trim rfl ?_
          refine hd_iast (n := 690) pkX14_trim rfl (ghh2.cell 2 rfl) (by decide) (by omega) (by omega) (fun hh6 ehh6 => ?_)
          have ghh6 : Str t14 r14 hh6 := by rw [ehh6]; exact ghh2.setA rfl
          refine hd_vret pkX14_trim rfl ?_
          subst eQ
          have ht : k = 0 ∨ lm (ga h 2496) 70 n k ≠ 0 := by
            show k = 0 ∨ ga h 2496 (70 * n + k) ≠ 0
            omega
          have oo : Only [2496, 2497] h hh6 := by
            subst ehh6 ehh2
            exact (Only.refl _ _).set (by decide) |>.set (by decide)
          have ez : ∀ i : Int, 0 ≤ i → ga hh6 2496 i = if i = 70 * n then k else ga h 2496 i := fun i hi => by
            subst ehh6 ehh2
            rw [ga_ne _ _ _ _ (by decide), ga_sa _ _ _ (by omega) hi]
          have es : ∀ j : Int, 0 ≤ j → ga hh6 2497 j = if j = n then 0 else ga h 2497 j := fun j hj => by
            subst ehh6 ehh2
            rw [ga_sa _ _ _ hn hj, ga_ne _ _ _ _ (by decide)]
          have ss : 0 = if k = 0 then 0 else ga h 2497 n := by
            subst ehh6 ehh2
            try rw [ga_ne _ _ _ _ (by decide)] at *
            split <;> omega
          have T := trim_num (Z := ga h 2496) (Z' := ga hh6 2496) (by decide) hn k0 k1 hl hd kz ht (by rw [ez _ (by omega), if_pos rfl]) (fun i p q => by rw [ez i p, if_neg q])
          refine ⟨rfl, ⟨oo, fun i p q => ?_, fun j p q => ?_⟩, T.1, T.2.1, by rw [T.2.2]; exact k1, ?_⟩
          · rw [ez i p, if_neg]
            have := q n List.mem_cons_self
            omega
          · rw [es j p, if_neg]
            exact fun e => q (e ▸ List.mem_cons_self)
          · rw [es n hn, if_pos rfl, T.2.2]
            exact ss
      · skip
        refine hd_aload pkX14_trim rfl rfl (Int.natCast_nonneg _) ?_
        refine hd_getR (n := 2496) pkX14_trim rfl (g.cell 0 rfl).1 (g.cell 0 rfl).2.1 (g.ref 0 rfl) ?_
        refine hd_ipush (z := 70) pkX14_trim rfl ?_
        refine hd_iload pkX14_trim rfl rfl ?_
        refine hd_imul pkX14_trim rfl (by omega) ?_
        refine hd_iload pkX14_trim rfl rfl ?_
        refine hd_iadd pkX14_trim rfl (by omega) ?_
        refine hd_iald (n := 48300) pkX14_trim rfl (g.cell 1 rfl) (by omega) (by omega) (fun v7 ev7 rv7 => ?_)
        refine hd_if_ne pkX14_trim rfl (fun c8 => ?_) (fun c8 => ?_)
        · skip
          refine hd_aload pkX14_trim rfl rfl (Int.natCast_nonneg _) ?_
          refine hd_getR (n := 2496) pkX14_trim rfl (g.cell 0 rfl).1 (g.cell 0 rfl).2.1 (g.ref 0 rfl) ?_
          refine hd_ipush (z := 70) pkX14_trim rfl ?_
          refine hd_iload pkX14_trim rfl rfl ?_
          refine hd_imul pkX14_trim rfl (by omega) ?_
          refine hd_iload pkX14_trim rfl rfl ?_
          refine hd_iast (n := 48300) pkX14_trim rfl (g.cell 1 rfl) (by decide) (by omega) (by omega) (fun hh9 ehh9 => ?_)
          have ghh9 : Str t14 r14 hh9 := by rw [ehh9]; exact g.setA rfl
          refine hd_aload pkX14_trim rfl rfl (Int.natCast_nonneg _) ?_
          refine hd_getR (n := 2497) pkX14_trim rfl (ghh9.cell 0 rfl).1 (ghh9.cell 0 rfl).2.1 (ghh9.ref 1 rfl) ?_
          refine hd_iload pkX14_trim rfl rfl ?_
          refine hd_iload pkX14_trim rfl rfl ?_
          refine hd_if_ne pkX14_trim rfl (fun c10 => ?_) (fun c10 => ?_)
          · skip
            refine hd_aload pkX14_trim rfl rfl (Int.natCast_nonneg _) ?_
            refine hd_getR (n := 2497) pkX14_trim rfl (ghh9.cell 0 rfl).1 (ghh9.cell 0 rfl).2.1 (ghh9.ref 1 rfl) ?_
            refine hd_iload pkX14_trim rfl rfl ?_
            refine hd_iald (n := 690) pkX14_trim rfl (ghh9.cell 2 rfl) (by omega) (by omega) (fun v11 ev11 rv11 => ?_)
            refine hd_iast (n := 690) pkX14_trim rfl (ghh9.cell 2 rfl) (by decide) (by omega) (by omega) (fun hh12 ehh12 => ?_)
            have ghh12 : Str t14 r14 hh12 := by rw [ehh12]; exact ghh9.setA rfl
            refine hd_vret pkX14_trim rfl ?_
            subst eQ
            have ht : k = 0 ∨ lm (ga h 2496) 70 n k ≠ 0 := by
              show k = 0 ∨ ga h 2496 (70 * n + k) ≠ 0
              omega
            have oo : Only [2496, 2497] h hh12 := by
              subst ehh12 ehh9
              exact (Only.refl _ _).set (by decide) |>.set (by decide)
            have ez : ∀ i : Int, 0 ≤ i → ga hh12 2496 i = if i = 70 * n then k else ga h 2496 i := fun i hi => by
              subst ehh12 ehh9
              rw [ga_ne _ _ _ _ (by decide), ga_sa _ _ _ (by omega) hi]
            have es : ∀ j : Int, 0 ≤ j → ga hh12 2497 j = if j = n then v11 else ga h 2497 j := fun j hj => by
              subst ehh12 ehh9
              rw [ga_sa _ _ _ hn hj, ga_ne _ _ _ _ (by decide)]
            have ss : v11 = if k = 0 then 0 else ga h 2497 n := by
              subst ehh12 ehh9
              try rw [ga_ne _ _ _ _ (by decide)] at *
              split <;> omega
            have T := trim_num (Z := ga h 2496) (Z' := ga hh12 2496) (by decide) hn k0 k1 hl hd kz ht (by rw [ez _ (by omega), if_pos rfl]) (fun i p q => by rw [ez i p, if_neg q])
            refine ⟨rfl, ⟨oo, fun i p q => ?_, fun j p q => ?_⟩, T.1, T.2.1, by rw [T.2.2]; exact k1, ?_⟩
            · rw [ez i p, if_neg]
              have := q n List.mem_cons_self
              omega
            · rw [es j p, if_neg]
              exact fun e => q (e ▸ List.mem_cons_self)
            · rw [es n hn, if_pos rfl, T.2.2]
              exact ss
          · skip
            refine hd_ipush (z := 0) pkX14_trim rfl ?_
            refine hd_goto pkX14_trim rfl ?_
            refine hd_iast (n := 690) pkX14_trim rfl (ghh9.cell 2 rfl) (by decide) (by omega) (by omega) (fun hh13 ehh13 => ?_)
            have ghh13 : Str t14 r14 hh13 := by rw [ehh13]; exact ghh9.setA rfl
            refine hd_vret pkX14_trim rfl ?_
            subst eQ
            have ht : k = 0 ∨ lm (ga h 2496) 70 n k ≠ 0 := by
              show k = 0 ∨ ga h 2496 (70 * n + k) ≠ 0
              omega
            have oo : Only [2496, 2497] h hh13 := by
              subst ehh13 ehh9
              exact (Only.refl _ _).set (by decide) |>.set (by decide)
            have ez : ∀ i : Int, 0 ≤ i → ga hh13 2496 i = if i = 70 * n then k else ga h 2496 i := fun i hi => by
              subst ehh13 ehh9
              rw [ga_ne _ _ _ _ (by decide), ga_sa _ _ _ (by omega) hi]
            have es : ∀ j : Int, 0 ≤ j → ga hh13 2497 j = if j = n then 0 else ga h 2497 j := fun j hj => by
              subst ehh13 ehh9
              rw [ga_sa _ _ _ hn hj, ga_ne _ _ _ _ (by decide)]
            have ss : 0 = if k = 0 then 0 else ga h 2497 n := by
              subst ehh13 ehh9
              try rw [ga_ne _ _ _ _ (by decide)] at *
              split <;> omega
            have T := trim_num (Z := ga h 2496) (Z' := ga hh13 2496) (by decide) hn k0 k1 hl hd kz ht (by rw [ez _ (by omega), if_pos rfl]) (fun i p q => by rw [ez i p, if_neg q])
            refine ⟨rfl, ⟨oo, fun i p q => ?_, fun j p q => ?_⟩, T.1, T.2.1, by rw [T.2.2]; exact k1, ?_⟩
            · rw [ez i p, if_neg]
              have := q n List.mem_cons_self
              omega
            · rw [es j p, if_neg]
              exact fun e => q (e ▸ List.mem_cons_self)
            · rw [es n hn, if_pos rfl, T.2.2]
              exact ss
        · skip
          refine hd_iinc (z := (-1)) pkX14_trim rfl rfl (by omega) rfl ?_
          change MW _ _ _ _ _ [(3, (0, (k + (-1)))), (0, (2, ((2495 : Nat) : Int))), (1, (0, n)), (2, (0, l))] _ _
          refine hd_goto pkX14_trim rfl ?_
          refine m_sub [(0, (2, ((2495 : Nat) : Int))), (1, (0, n)), (2, (0, l)), (3, (0, (k + (-1))))] (List.forall_mem_cons.mpr ⟨rfl, List.forall_mem_cons.mpr ⟨rfl, List.forall_mem_cons.mpr ⟨rfl, List.forall_mem_cons.mpr ⟨rfl, fun _ h => absurd h List.not_mem_nil⟩⟩⟩⟩) ?_
          refine ih2  ((k + (-1))) ?_ ?_ ?_ ?_
          · omega
          · omega
          · intro j p q
            by_cases w : j = k
            · rw [w]
              show ga h 2496 (70 * n + k) = 0
              omega
            · exact kz j (by omega) q
          · omega
  refine m_sub [(0, (2, ((2495 : Nat) : Int))), (1, (0, n)), (2, (0, l)), (3, (0, l))] (List.forall_mem_cons.mpr ⟨rfl, List.forall_mem_cons.mpr ⟨rfl, List.forall_mem_cons.mpr ⟨rfl, List.forall_mem_cons.mpr ⟨rfl, fun _ h => absurd h List.not_mem_nil⟩⟩⟩⟩) ?_
  refine lp2 (((l)) + 1).toNat (l) ?_ ?_ ?_ ?_
  · omega
  · omega
  · intro j p q
    omega
  · omega
set_option maxRecDepth 20000 in
set_option maxHeartbeats 8000000 in
theorem h_X14_copy {h : MH} {a b : Int} (ha : 0 ≤ a) (ha2 : a < 690) (hb : 0 ≤ b) (hb2 : b < 690) (hN : Num (ga h 2496) 70 a) (g : Str t14 r14 h) : MCal KX14_copy yX14_copy 0 0 [(2, ((2495 : Nat) : Int)), (0, a), (0, b)] h (mRV fun h' => Ch 70 2496 2497 [b] h h' ∧ Num (ga h' 2496) 70 b ∧ vl (ga h' 2496) 70 b = vl (ga h 2496) 70 a ∧ sz (ga h' 2496) 70 b = sz (ga h 2496) 70 a ∧ ga h' 2497 b = ga h 2497 a) := by
  refine MCal.ofMW (Or.inl rfl) ⟨cp_X14, rfl⟩ (Nat.le_of_ble_eq_true rfl) ?_
  generalize eQ : (mRV fun h' => Ch 70 2496 2497 [b] h h' ∧ Num (ga h' 2496) 70 b ∧ vl (ga h' 2496) 70 b = vl (ga h 2496) 70 a ∧ sz (ga h' 2496) 70 b = sz (ga h 2496) 70 a ∧ ga h' 2497 b = ga h 2497 a : MO → MH → Prop) = Q
  change MW KX14_copy Q 0 0 (pcA pgX14_copy 0) [(0, (2, ((2495 : Nat) : Int))), (1, (0, a)), (2, (0, b))] [] h
  refine hd_locI (i := 1) rfl (fun ra => ?_)
  refine hd_locI (i := 2) rfl (fun rb => ?_)
  have n1 := hN.1
  have n2 := hN.2.1
  refine hd_ipush (z := 0) pkX14_copy rfl ?_
  refine hd_istore pkX14_copy rfl rfl ?_
  change MW _ _ _ _ _ [(3, (0, 0)), (0, (2, ((2495 : Nat) : Int))), (1, (0, a)), (2, (0, b))] _ _
  have lp2 : ∀ (N2 : Nat) (k : Int) (h2 : MH), Str t14 r14 h2 → (Only [2496, 2497] h h2) → (0 ≤ k) → (k ≤ sz (ga h 2496) 70 a + 1) → (∀ i : Int, 0 ≤ i → ga h2 2496 i = if 70 * b ≤ i ∧ i < 70 * b + k then ga h 2496 (i - 70 * b + 70 * a) else ga h 2496 i) → (∀ j : Int, ga h2 2497 j = ga h 2497 j) → sz (ga h 2496) 70 a + 1 - k < (N2 : Int) → MW KX14_copy Q 0 0 (pcA pgX14_copy 2) [(0, (2, ((2495 : Nat) : Int))), (1, (0, a)), (2, (0, b)), (3, (0, k))] [] h2 := by
    intro N2
    induction N2 with
    | zero => intro k h2 g2 kc k0 k1 kz ks hm2; exfalso; omega
    | succ N2 ih2 =>
      intro k h2 g2 kc k0 k1 kz ks hm2
      have rd : ∀ j : Int, 0 ≤ j → j < 70 → k ≤ j → ga h2 2496 (70 * a + j) = ga h 2496 (70 * a + j) := fun j p q r => by
        rw [kz _ (by omega)]
        by_cases e : a = b
        · subst e
          rw [if_neg (by omega)]
        · rw [if_neg (fun x => apart (W := 70) (by decide) e (i := 70 * a + j) ⟨by omega, by omega⟩ ⟨x.1, by omega⟩)]
      have r0 : ga h2 2496 (70 * a) = sz (ga h 2496) 70 a := by
        by_cases e : k = 0
        · have := rd 0 (by omega) (by decide) (by omega)
          rw [Int.add_zero] at this
          exact this
        · rw [kz _ (by omega)]
          by_cases e : a = b
          · subst e
            rw [if_pos (by omega)]
            show ga h 2496 (70 * a - 70 * a + 70 * a) = ga h 2496 (70 * a)
            congr 1
            omega
          · rw [if_neg (fun x => apart (W := 70) (by decide) e (i := 70 * a) ⟨by omega, by omega⟩ ⟨x.1, by omega⟩)]
            rfl
      refine hd_iload pkX14_copy rfl rfl ?_
      refine hd_aload pkX14_copy rfl rfl (Int.natCast_nonneg _) ?_
      refine hd_getR (n := 2496) pkX14_copy rfl (g2.cell 0 rfl).1 (g2.cell 0 rfl).2.1 (g2.ref 0 rfl) ?_
      refine hd_ipush (z := 70) pkX14_copy rfl ?_
      refine hd_iload pkX14_copy rfl rfl ?_
      refine hd_imul pkX14_copy rfl (by omega) ?_
      refine hd_iald (n := 48300) pkX14_copy rfl (g2.cell 1 rfl) (by omega) (by omega) (fun v1 ev1 rv1 => ?_)
      refine hd_ic_gt pkX14_copy rfl (fun c2 => ?_) (fun c2 => ?_)
      · skip
        refine hd_aload pkX14_copy rfl rfl (Int.natCast_nonneg _) ?_
        refine hd_getR (n := 2497) pkX14_copy rfl (g2.cell 0 rfl).1 (g2.cell 0 rfl).2.1 (g2.ref 1 rfl) ?_
        refine hd_iload pkX14_copy rfl rfl ?_
        refine hd_aload pkX14_copy rfl rfl (Int.natCast_nonneg _) ?_
        refine hd_getR (n := 2497) pkX14_copy rfl (g2.cell 0 rfl).1 (g2.cell 0 rfl).2.1 (g2.ref 1 rfl) ?_
        refine hd_iload pkX14_copy rfl rfl ?_
        refine hd_iald (n := 690) pkX14_copy rfl (g2.cell 2 rfl) (by omega) (by omega) (fun v3 ev3 rv3 => ?_)
        refine hd_iast (n := 690) pkX14_copy rfl (g2.cell 2 rfl) (by decide) (by omega) (by omega) (fun hh4 ehh4 => ?_)
        have ghh4 : Str t14 r14 hh4 := by rw [ehh4]; exact g2.setA rfl
        refine hd_vret pkX14_copy rfl ?_
        subst eQ
        have kk : k = sz (ga h 2496) 70 a + 1 := by omega
        have ez : ∀ i : Int, 0 ≤ i → ga hh4 2496 i = if 70 * b ≤ i ∧ i < 70 * b + (sz (ga h 2496) 70 a + 1) then ga h 2496 (i - 70 * b + 70 * a) else ga h 2496 i := fun i hi => by
          subst ehh4
          rw [ga_ne _ _ _ _ (by decide), ← kk]
          exact kz i hi
        have es : ∀ j : Int, 0 ≤ j → ga hh4 2497 j = if j = b then v3 else ga h 2497 j := fun j hj => by
          subst ehh4
          rw [ga_sa _ _ _ hb hj, ks j]
        have T := copy_num (Z := ga h 2496) (Z' := ga hh4 2496) (by decide) hb hN ez
        refine ⟨rfl, ⟨?_, fun i p q => ?_, fun j p q => ?_⟩, T.1, T.2.1, T.2.2, ?_⟩
        · subst ehh4
          exact kc.set (by decide)
        · rw [ez i p, if_neg]
          have := q b List.mem_cons_self
          omega
        · rw [es j p, if_neg]
          exact fun e => q (e ▸ List.mem_cons_self)
        · rw [es b hb, if_pos rfl]
          have := ks a
          omega
      · skip
        refine hd_aload pkX14_copy rfl rfl (Int.natCast_nonneg _) ?_
        refine hd_getR (n := 2496) pkX14_copy rfl (g2.cell 0 rfl).1 (g2.cell 0 rfl).2.1 (g2.ref 0 rfl) ?_
        refine hd_ipush (z := 70) pkX14_copy rfl ?_
        refine hd_iload pkX14_copy rfl rfl ?_
        refine hd_imul pkX14_copy rfl (by omega) ?_
        refine hd_iload pkX14_copy rfl rfl ?_
        refine hd_iadd pkX14_copy rfl (by omega) ?_
        refine hd_aload pkX14_copy rfl rfl (Int.natCast_nonneg _) ?_
        refine hd_getR (n := 2496) pkX14_copy rfl (g2.cell 0 rfl).1 (g2.cell 0 rfl).2.1 (g2.ref 0 rfl) ?_
        refine hd_ipush (z := 70) pkX14_copy rfl ?_
        refine hd_iload pkX14_copy rfl rfl ?_
        refine hd_imul pkX14_copy rfl (by omega) ?_
        refine hd_iload pkX14_copy rfl rfl ?_
        refine hd_iadd pkX14_copy rfl (by omega) ?_
        refine hd_iald (n := 48300) pkX14_copy rfl (g2.cell 1 rfl) (by omega) (by omega) (fun v5 ev5 rv5 => ?_)
        refine hd_iast (n := 48300) pkX14_copy rfl (g2.cell 1 rfl) (by decide) (by omega) (by omega) (fun hh6 ehh6 => ?_)
        have ghh6 : Str t14 r14 hh6 := by rw [ehh6]; exact g2.setA rfl
        refine hd_iinc (z := 1) pkX14_copy rfl rfl (by omega) rfl ?_
        change MW _ _ _ _ _ [(3, (0, (k + 1))), (0, (2, ((2495 : Nat) : Int))), (1, (0, a)), (2, (0, b))] _ _
        refine hd_goto pkX14_copy rfl ?_
        refine m_sub [(0, (2, ((2495 : Nat) : Int))), (1, (0, a)), (2, (0, b)), (3, (0, (k + 1)))] (List.forall_mem_cons.mpr ⟨rfl, List.forall_mem_cons.mpr ⟨rfl, List.forall_mem_cons.mpr ⟨rfl, List.forall_mem_cons.mpr ⟨rfl, fun _ h => absurd h List.not_mem_nil⟩⟩⟩⟩) ?_
        refine ih2  ((k + 1)) hh6 ghh6 ?_ ?_ ?_ ?_ ?_ ?_
        · subst ehh6
          exact kc.set (by decide)
        · omega
        · omega
        · intro i p
          subst ehh6
          rw [ga_sa _ _ _ (by omega) p]
          split
          · next e =>
            rw [if_pos (by omega)]
            have := rd k k0 (by omega) (Int.le_refl _)
            have e2 : i - 70 * b + 70 * a = 70 * a + k := by omega
            rw [e2]
            omega
          · next e =>
            rw [kz i p]
            by_cases q : 70 * b ≤ i ∧ i < 70 * b + k
            · rw [if_pos q, if_pos (by omega)]
            · rw [if_neg q, if_neg (by omega)]
        · intro j
          subst ehh6
          rw [ga_ne _ _ _ _ (by decide)]
          exact ks j
        · omega
  refine m_sub [(0, (2, ((2495 : Nat) : Int))), (1, (0, a)), (2, (0, b)), (3, (0, 0))] (List.forall_mem_cons.mpr ⟨rfl, List.forall_mem_cons.mpr ⟨rfl, List.forall_mem_cons.mpr ⟨rfl, List.forall_mem_cons.mpr ⟨rfl, fun _ h => absurd h List.not_mem_nil⟩⟩⟩⟩) ?_
  refine lp2 ((sz (ga h 2496) 70 a + 1 - (0)) + 1).toNat (0) h g ?_ ?_ ?_ ?_ ?_ ?_
  · exact Only.refl _ _
  · decide
  · omega
  · intro i p
    rw [if_neg (by omega)]
  · intro j
    rfl
  · omega
set_option maxRecDepth 20000 in
set_option maxHeartbeats 8000000 in
theorem h_X14_compare {h : MH} {a b : Int} (ha : 0 ≤ a) (ha2 : a < 690) (hb : 0 ≤ b) (hb2 : b < 690) (A : Num (ga h 2496) 70 a) (B : Num (ga h 2496) 70 b) (g : Str t14 r14 h) : MCal KX14_compare yX14_compare 0 0 [(2, ((2495 : Nat) : Int)), (0, a), (0, b)] h (mRI fun v h' => ((vl (ga h 2496) 70 a < vl (ga h 2496) 70 b → v < 0) ∧ (vl (ga h 2496) 70 a = vl (ga h 2496) 70 b → v = 0) ∧ (vl (ga h 2496) 70 b < vl (ga h 2496) 70 a → 0 < v) ∧ -16777216 < v ∧ v < 16777216) ∧ h' = h) := by
  refine MCal.ofMW (Or.inl rfl) ⟨cp_X14, rfl⟩ (Nat.le_of_ble_eq_true rfl) ?_
  generalize eQ : (mRI fun v h' => ((vl (ga h 2496) 70 a < vl (ga h 2496) 70 b → v < 0) ∧ (vl (ga h 2496) 70 a = vl (ga h 2496) 70 b → v = 0) ∧ (vl (ga h 2496) 70 b < vl (ga h 2496) 70 a → 0 < v) ∧ -16777216 < v ∧ v < 16777216) ∧ h' = h : MO → MH → Prop) = Q
  change MW KX14_compare Q 0 0 (pcA pgX14_compare 0) [(0, (2, ((2495 : Nat) : Int))), (1, (0, a)), (2, (0, b))] [] h
  refine hd_locI (i := 1) rfl (fun ra => ?_)
  refine hd_locI (i := 2) rfl (fun rb => ?_)
  have A1 := A.1
  have A2 := A.2.1
  have B1 := B.1
  have B2 := B.2.1
  refine hd_aload pkX14_compare rfl rfl (Int.natCast_nonneg _) ?_
  refine hd_iload pkX14_compare rfl rfl ?_
  refine hd_iload pkX14_compare rfl rfl ?_
  refine hd_callV pkX14_compare rfl (q := (KX14_longer, yX14_longer, 14, 2, 0)) rfl rfl rfl (As := [(0, a), (0, b)]) (rest := []) (c := 2495) rfl rfl (Nat.le_of_ble_eq_true rfl) (g.cell 0 rfl).1 (g.cell 0 rfl).2.1 (h_X14_longer ha ha2 hb hb2 g) (hd_bI (fun m hc1 p2 => ?_))
  obtain ⟨p2, ehc1⟩ := p2
  replace ehc1 := ehc1.symm
  subst ehc1
  have ma : sz (ga h 2496) 70 a ≤ m := by rw [p2]; split <;> omega
  have mb : sz (ga h 2496) 70 b ≤ m := by rw [p2]; split <;> omega
  have mx : m < 70 := by rw [p2]; split <;> omega
  refine hd_istore pkX14_compare rfl rfl ?_
  change MW _ _ _ _ _ [(3, (0, m)), (0, (2, ((2495 : Nat) : Int))), (1, (0, a)), (2, (0, b))] _ _
  have lp5 : ∀ (N5 : Nat) (k : Int), (k ≤ m) → (0 ≤ k) → (∀ j : Int, k < j → j ≤ m → lb (ga h 2496) 70 a j = lb (ga h 2496) 70 b j) → k < (N5 : Int) → MW KX14_compare Q 0 0 (pcA pgX14_compare 5) [(0, (2, ((2495 : Nat) : Int))), (1, (0, a)), (2, (0, b)), (3, (0, k))] [] h := by
    intro N5
    induction N5 with
    | zero => intro k k1 k0 ke hm5; exfalso; omega
    | succ N5 ih5 =>
      intro k k1 k0 ke hm5
      refine hd_iload pkX14_compare rfl rfl ?_
      refine hd_if_le pkX14_compare rfl (fun c3 => ?_) (fun c3 => ?_)
      · skip
        refine hd_ipush (z := 0) pkX14_compare rfl ?_
        refine hd_iret pkX14_compare rfl ?_
        subst eQ
        have E := cmp_eq A B ma mb (fun j p q => ke j (by omega) q)
        refine ⟨rfl, rfl, ⟨fun q => ?_, fun _ => rfl, fun q => ?_, by decide⟩, rfl⟩ <;> omega
      · skip
        refine hd_aload pkX14_compare rfl rfl (Int.natCast_nonneg _) ?_
        refine hd_iload pkX14_compare rfl rfl ?_
        refine hd_iload pkX14_compare rfl rfl ?_
        refine hd_callV pkX14_compare rfl (q := (KX14_limb, yX14_limb, 14, 2, 0)) rfl rfl rfl (As := [(0, a), (0, k)]) (rest := []) (c := 2495) rfl rfl (Nat.le_of_ble_eq_true rfl) (g.cell 0 rfl).1 (g.cell 0 rfl).2.1 (h_X14_limb ha ha2 A1 A2 (by omega) g) (hd_bI (fun w4 hc5 p6 => ?_))
        obtain ⟨p6, ehc5⟩ := p6
        replace ehc5 := ehc5.symm
        subst ehc5
        refine hd_aload pkX14_compare rfl rfl (Int.natCast_nonneg _) ?_
        refine hd_iload pkX14_compare rfl rfl ?_
        refine hd_iload pkX14_compare rfl rfl ?_
        refine hd_callV pkX14_compare rfl (q := (KX14_limb, yX14_limb, 14, 2, 0)) rfl rfl rfl (As := [(0, b), (0, k)]) (rest := [(0, w4)]) (c := 2495) rfl rfl (Nat.le_of_ble_eq_true rfl) (g.cell 0 rfl).1 (g.cell 0 rfl).2.1 (h_X14_limb hb hb2 B1 B2 (by omega) g) (hd_bI (fun w7 hc8 p9 => ?_))
        obtain ⟨p9, ehc8⟩ := p9
        replace ehc8 := ehc8.symm
        subst ehc8
        refine hd_ic_eq pkX14_compare rfl (fun c10 => ?_) (fun c10 => ?_)
        · skip
          refine hd_iinc (z := (-1)) pkX14_compare rfl rfl (by omega) rfl ?_
          change MW _ _ _ _ _ [(3, (0, (k + (-1)))), (0, (2, ((2495 : Nat) : Int))), (1, (0, a)), (2, (0, b))] _ _
          refine hd_goto pkX14_compare rfl ?_
          refine m_sub [(0, (2, ((2495 : Nat) : Int))), (1, (0, a)), (2, (0, b)), (3, (0, (k + (-1))))] (List.forall_mem_cons.mpr ⟨rfl, List.forall_mem_cons.mpr ⟨rfl, List.forall_mem_cons.mpr ⟨rfl, List.forall_mem_cons.mpr ⟨rfl, fun _ h => absurd h List.not_mem_nil⟩⟩⟩⟩) ?_
          refine ih5  ((k + (-1))) ?_ ?_ ?_ ?_
          · omega
          · omega
          · intro j p q
            by_cases w : j = k
            · rw [w]
              omega
            · exact ke j (by omega) q
          · omega
        · skip
          refine hd_aload pkX14_compare rfl rfl (Int.natCast_nonneg _) ?_
          refine hd_iload pkX14_compare rfl rfl ?_
          refine hd_iload pkX14_compare rfl rfl ?_
          refine hd_callV pkX14_compare rfl (q := (KX14_limb, yX14_limb, 14, 2, 0)) rfl rfl rfl (As := [(0, a), (0, k)]) (rest := []) (c := 2495) rfl rfl (Nat.le_of_ble_eq_true rfl) (g.cell 0 rfl).1 (g.cell 0 rfl).2.1 (h_X14_limb ha ha2 A1 A2 (by omega) g) (hd_bI (fun w11 hc12 p13 => ?_))
          obtain ⟨p13, ehc12⟩ := p13
          replace ehc12 := ehc12.symm
          subst ehc12
          refine hd_aload pkX14_compare rfl rfl (Int.natCast_nonneg _) ?_
          refine hd_iload pkX14_compare rfl rfl ?_
          refine hd_iload pkX14_compare rfl rfl ?_
          refine hd_callV pkX14_compare rfl (q := (KX14_limb, yX14_limb, 14, 2, 0)) rfl rfl rfl (As := [(0, b), (0, k)]) (rest := [(0, w11)]) (c := 2495) rfl rfl (Nat.le_of_ble_eq_true rfl) (g.cell 0 rfl).1 (g.cell 0 rfl).2.1 (h_X14_limb hb hb2 B1 B2 (by omega) g) (hd_bI (fun w14 hc15 p16 => ?_))
          obtain ⟨p16, ehc15⟩ := p16
          replace ehc15 := ehc15.symm
          subst ehc15
          refine hd_isub pkX14_compare rfl (by have := lb_rng A (j := k) (by omega); have := lb_rng B (j := k) (by omega); omega) ?_
          refine hd_iret pkX14_compare rfl ?_
          subst eQ
          have E := cmp_ne A B ma mb (by omega) k1 ke
          refine ⟨rfl, rfl, ⟨fun q => ?_, fun q => ?_, fun q => ?_, ?_⟩, rfl⟩
          · show (w11 - w14) < 0
            omega
          · show (w11 - w14) = 0
            omega
          · show 0 < (w11 - w14)
            omega
          · show -16777216 < (w11 - w14) ∧ (w11 - w14) < 16777216
            have := lb_rng A (j := k) (by omega)
            have := lb_rng B (j := k) (by omega)
            omega
  refine m_sub [(0, (2, ((2495 : Nat) : Int))), (1, (0, a)), (2, (0, b)), (3, (0, m))] (List.forall_mem_cons.mpr ⟨rfl, List.forall_mem_cons.mpr ⟨rfl, List.forall_mem_cons.mpr ⟨rfl, List.forall_mem_cons.mpr ⟨rfl, fun _ h => absurd h List.not_mem_nil⟩⟩⟩⟩) ?_
  refine lp5 (((m)) + 1).toNat (m) ?_ ?_ ?_ ?_
  · omega
  · omega
  · intro j p q
    omega
  · omega
set_option maxRecDepth 20000 in
set_option maxHeartbeats 8000000 in
theorem h_X14_addPlain {h : MH} {a b m : Int} (ha : 0 ≤ a) (ha2 : a < 690) (hb : 0 ≤ b) (hb2 : b < 690) (A : Num (ga h 2496) 70 a) (B : Num (ga h 2496) 70 b) (am : sz (ga h 2496) 70 a ≤ m) (bm : sz (ga h 2496) 70 b ≤ m) (hm : m + 2 < 70) (g : Str t14 r14 h) : MCal KX14_addPlain yX14_addPlain 0 0 [(2, ((2495 : Nat) : Int)), (0, a), (0, b)] h (mRV fun h' => Ch 70 2496 2497 [a] h h' ∧ Num (ga h' 2496) 70 a ∧ vl (ga h' 2496) 70 a = vl (ga h 2496) 70 a + vl (ga h 2496) 70 b ∧ sz (ga h' 2496) 70 a ≤ m + 1 ∧ ga h' 2497 a = (if sz (ga h' 2496) 70 a = 0 then 0 else ga h 2497 a)) := by
  refine MCal.ofMW (Or.inl rfl) ⟨cp_X14, rfl⟩ (Nat.le_of_ble_eq_true rfl) ?_
  generalize eQ : (mRV fun h' => Ch 70 2496 2497 [a] h h' ∧ Num (ga h' 2496) 70 a ∧ vl (ga h' 2496) 70 a = vl (ga h 2496) 70 a + vl (ga h 2496) 70 b ∧ sz (ga h' 2496) 70 a ≤ m + 1 ∧ ga h' 2497 a = (if sz (ga h' 2496) 70 a = 0 then 0 else ga h 2497 a) : MO → MH → Prop) = Q
  change MW KX14_addPlain Q 0 0 (pcA pgX14_addPlain 0) [(0, (2, ((2495 : Nat) : Int))), (1, (0, a)), (2, (0, b))] [] h
  refine hd_locI (i := 1) rfl (fun ra => ?_)
  refine hd_locI (i := 2) rfl (fun rb => ?_)
  have A1 := A.1
  have A2 := A.2.1
  have B1 := B.1
  have B2 := B.2.1
  refine hd_aload pkX14_addPlain rfl rfl (Int.natCast_nonneg _) ?_
  refine hd_iload pkX14_addPlain rfl rfl ?_
  refine hd_iload pkX14_addPlain rfl rfl ?_
  refine hd_callV pkX14_addPlain rfl (q := (KX14_longer, yX14_longer, 14, 2, 0)) rfl rfl rfl (As := [(0, a), (0, b)]) (rest := []) (c := 2495) rfl rfl (Nat.le_of_ble_eq_true rfl) (g.cell 0 rfl).1 (g.cell 0 rfl).2.1 (h_X14_longer ha ha2 hb hb2 g) (hd_bI (fun l hc1 p2 => ?_))
  obtain ⟨p2, ehc1⟩ := p2
  replace ehc1 := ehc1.symm
  subst ehc1
  have ma : sz (ga h 2496) 70 a ≤ l := by rw [p2]; split <;> omega
  have mb : sz (ga h 2496) 70 b ≤ l := by rw [p2]; split <;> omega
  have mx : l ≤ m := by rw [p2]; split <;> omega
  refine hd_istore pkX14_addPlain rfl rfl ?_
  change MW _ _ _ _ _ [(3, (0, l)), (0, (2, ((2495 : Nat) : Int))), (1, (0, a)), (2, (0, b))] _ _
  refine hd_ipush (z := 0) pkX14_addPlain rfl ?_
  refine hd_istore pkX14_addPlain rfl rfl ?_
  change MW _ _ _ _ _ [(4, (0, 0)), (3, (0, l)), (0, (2, ((2495 : Nat) : Int))), (1, (0, a)), (2, (0, b))] _ _
  refine hd_ipush (z := 1) pkX14_addPlain rfl ?_
  refine hd_istore pkX14_addPlain rfl rfl ?_
  change MW _ _ _ _ _ [(5, (0, 1)), (4, (0, 0)), (3, (0, l)), (0, (2, ((2495 : Nat) : Int))), (1, (0, a)), (2, (0, b))] _ _
  have lp9 : ∀ (N9 : Nat) (c k : Int) (h9 : MH), Str t14 r14 h9 → (Only [2496, 2497] h h9) → (1 ≤ k) → (k ≤ l + 2) → (0 ≤ c ∧ c ≤ 1) → (∀ i : Int, 0 ≤ i → ¬ (70 * a ≤ i ∧ i < 70 * a + k) → ga h9 2496 i = ga h 2496 i) → ((sz (ga h 2496) 70 a ≤ k - 1 → ga h9 2496 (70 * a) = k - 1) ∧ (k - 1 < sz (ga h 2496) 70 a → ga h9 2496 (70 * a) = sz (ga h 2496) 70 a)) → (Dg (ga h9 2496) 70 a (k - 1)) → (bl (lm (ga h9 2496) 70 a) (k - 1).toNat + c * PW (k - 1).toNat = bl (lb (ga h 2496) 70 a) (k - 1).toNat + bl (lb (ga h 2496) 70 b) (k - 1).toNat) → (l + 1 < k → c = 0) → (∀ j : Int, ga h9 2497 j = ga h 2497 j) → l + 2 - k < (N9 : Int) → MW KX14_addPlain Q 0 0 (pcA pgX14_addPlain 9) [(0, (2, ((2495 : Nat) : Int))), (1, (0, a)), (2, (0, b)), (3, (0, l)), (4, (0, c)), (5, (0, k))] [] h9 := by
    intro N9
    induction N9 with
    | zero => intro c k h9 g9 io k1 k2 c1 i4 i5 i6 i7 i8 i9 hm9; exfalso; omega
    | succ N9 ih9 =>
      intro c k h9 g9 io k1 k2 c1 i4 i5 i6 i7 i8 i9 hm9
      have qa := add_lb (Z := ga h9 2496) (Z0 := ga h 2496) (by decide) ha ha k1 (by omega) A2 i4 i5
      have qb := add_lb (Z := ga h9 2496) (Z0 := ga h 2496) (by decide) ha hb k1 (by omega) B2 i4 i5
      have ra9 := lb_rng A (j := k) k1
      have rb9 := lb_rng B (j := k) k1
      refine hd_iload pkX14_addPlain rfl rfl ?_
      refine hd_iload pkX14_addPlain rfl rfl ?_
      refine hd_ipush (z := 1) pkX14_addPlain rfl ?_
      refine hd_iadd pkX14_addPlain rfl (by omega) ?_
      refine hd_ic_gt pkX14_addPlain rfl (fun c3 => ?_) (fun c3 => ?_)
      · skip
        refine hd_aload pkX14_addPlain rfl rfl (Int.natCast_nonneg _) ?_
        refine hd_iload pkX14_addPlain rfl rfl ?_
        refine hd_iload pkX14_addPlain rfl rfl ?_
        refine hd_ipush (z := 1) pkX14_addPlain rfl ?_
        refine hd_iadd pkX14_addPlain rfl (by omega) ?_
        have hd9 : Dg (ga h9 2496) 70 a (l + 1) := by
          have e : l + 1 = k - 1 := by omega
          rw [e]
          exact i6
        refine hd_callV pkX14_addPlain rfl (q := (KX14_trim, yX14_trim, 14, 2, 0)) rfl rfl rfl (As := [(0, a), (0, (l + 1))]) (rest := []) (c := 2495) rfl rfl (Nat.le_of_ble_eq_true rfl) (g9.cell 0 rfl).1 (g9.cell 0 rfl).2.1 (h_X14_trim ha ha2 (by omega) (by omega) hd9 g9) (hd_bV (fun hc4 pt => ?_))
        have ghc4 : Str t14 r14 hc4 := g9.only pt.1.1 (by decide)
        refine hd_vret pkX14_addPlain rfl ?_
        subst eQ
        have kk : k = l + 2 := by omega
        have c0 := i8 (by omega)
        have e1 : (k - 1).toNat = (l + 1).toNat := by omega
        rw [c0, Int.zero_mul, Int.add_zero, e1] at i7
        have e2 := vl_lb A (m := (l + 1).toNat) (by omega)
        have e3 := vl_lb B (m := (l + 1).toNat) (by omega)
        refine ⟨rfl, ⟨Only.trans io pt.1.1, fun i p q => ?_, fun j p q => ?_⟩, pt.2.1, ?_, by have := pt.2.2.2.1; omega, ?_⟩
        · rw [pt.1.2.1 i p q]
          have := q a List.mem_cons_self
          exact i4 i p (by omega)
        · rw [pt.1.2.2 j p q]
          exact i9 j
        · rw [pt.2.2.1, i7, e2, e3]
        · rw [pt.2.2.2.2, i9 a]
      · skip
        refine hd_aload pkX14_addPlain rfl rfl (Int.natCast_nonneg _) ?_
        refine hd_iload pkX14_addPlain rfl rfl ?_
        refine hd_iload pkX14_addPlain rfl rfl ?_
        refine hd_callV pkX14_addPlain rfl (q := (KX14_limb, yX14_limb, 14, 2, 0)) rfl rfl rfl (As := [(0, a), (0, k)]) (rest := []) (c := 2495) rfl rfl (Nat.le_of_ble_eq_true rfl) (g9.cell 0 rfl).1 (g9.cell 0 rfl).2.1 (h_X14_limb ha ha2 (qa.2.1 A1) qa.2.2 (by omega) g9) (hd_bI (fun x hc5 px => ?_))
        obtain ⟨px, ehc5⟩ := px
        replace ehc5 := ehc5.symm
        subst ehc5
        refine hd_aload pkX14_addPlain rfl rfl (Int.natCast_nonneg _) ?_
        refine hd_iload pkX14_addPlain rfl rfl ?_
        refine hd_iload pkX14_addPlain rfl rfl ?_
        refine hd_callV pkX14_addPlain rfl (q := (KX14_limb, yX14_limb, 14, 2, 0)) rfl rfl rfl (As := [(0, b), (0, k)]) (rest := [(0, x)]) (c := 2495) rfl rfl (Nat.le_of_ble_eq_true rfl) (g9.cell 0 rfl).1 (g9.cell 0 rfl).2.1 (h_X14_limb hb hb2 (qb.2.1 B1) qb.2.2 (by omega) g9) (hd_bI (fun y hc6 py => ?_))
        obtain ⟨py, ehc6⟩ := py
        replace ehc6 := ehc6.symm
        subst ehc6
        refine hd_iadd pkX14_addPlain rfl (by omega) ?_
        refine hd_iload pkX14_addPlain rfl rfl ?_
        refine hd_iadd pkX14_addPlain rfl (by omega) ?_
        refine hd_istore pkX14_addPlain rfl rfl ?_
        change MW _ _ _ _ _ [(6, (0, ((x + y) + c))), (0, (2, ((2495 : Nat) : Int))), (1, (0, a)), (2, (0, b)), (3, (0, l)), (4, (0, c)), (5, (0, k))] _ _
        refine hd_aload pkX14_addPlain rfl rfl (Int.natCast_nonneg _) ?_
        refine hd_getR (n := 2496) pkX14_addPlain rfl (g9.cell 0 rfl).1 (g9.cell 0 rfl).2.1 (g9.ref 0 rfl) ?_
        refine hd_ipush (z := 70) pkX14_addPlain rfl ?_
        refine hd_iload pkX14_addPlain rfl rfl ?_
        refine hd_imul pkX14_addPlain rfl (by omega) ?_
        refine hd_iload pkX14_addPlain rfl rfl ?_
        refine hd_iadd pkX14_addPlain rfl (by omega) ?_
        refine hd_iload pkX14_addPlain rfl rfl ?_
        refine hd_ipush (z := 16777215) pkX14_addPlain rfl ?_
        refine hd_iand (v := (((x + y) + c) % 16777216)) pkX14_addPlain rfl (by exact h_and32 _) ?_
        refine hd_iast (n := 48300) pkX14_addPlain rfl (g9.cell 1 rfl) (by decide) (by omega) (by omega) (fun hh7 ehh7 => ?_)
        have ghh7 : Str t14 r14 hh7 := by rw [ehh7]; exact g9.setA rfl
        have e10 : ga hh7 2496 (70 * a) = ga h9 2496 (70 * a) := by rw [ehh7, ga_sa _ _ _ (by omega) (by omega), if_neg (by omega)]
        refine hd_iload pkX14_addPlain rfl rfl ?_
        refine hd_ipush (z := 24) pkX14_addPlain rfl ?_
        refine hd_ishr (v := (((x + y) + c) / 16777216)) pkX14_addPlain rfl (by exact h_shr24 (by omega)) ?_
        refine hd_istore pkX14_addPlain rfl rfl ?_
        change MW _ _ _ _ _ [(4, (0, (((x + y) + c) / 16777216))), (6, (0, ((x + y) + c))), (0, (2, ((2495 : Nat) : Int))), (1, (0, a)), (2, (0, b)), (3, (0, l)), (5, (0, k))] _ _
        refine hd_aload pkX14_addPlain rfl rfl (Int.natCast_nonneg _) ?_
        refine hd_getR (n := 2496) pkX14_addPlain rfl (ghh7.cell 0 rfl).1 (ghh7.cell 0 rfl).2.1 (ghh7.ref 0 rfl) ?_
        refine hd_ipush (z := 70) pkX14_addPlain rfl ?_
        refine hd_iload pkX14_addPlain rfl rfl ?_
        refine hd_imul pkX14_addPlain rfl (by omega) ?_
        refine hd_aload pkX14_addPlain rfl rfl (Int.natCast_nonneg _) ?_
        refine hd_getR (n := 2496) pkX14_addPlain rfl (ghh7.cell 0 rfl).1 (ghh7.cell 0 rfl).2.1 (ghh7.ref 0 rfl) ?_
        refine hd_ipush (z := 70) pkX14_addPlain rfl ?_
        refine hd_iload pkX14_addPlain rfl rfl ?_
        refine hd_imul pkX14_addPlain rfl (by omega) ?_
        refine hd_iald (n := 48300) pkX14_addPlain rfl (ghh7.cell 1 rfl) (by omega) (by omega) (fun v8 ev8 rv8 => ?_)
        refine hd_iload pkX14_addPlain rfl rfl ?_
        refine hd_ic_ge pkX14_addPlain rfl (fun c9 => ?_) (fun c9 => ?_)
        · skip
          refine hd_aload pkX14_addPlain rfl rfl (Int.natCast_nonneg _) ?_
          refine hd_getR (n := 2496) pkX14_addPlain rfl (ghh7.cell 0 rfl).1 (ghh7.cell 0 rfl).2.1 (ghh7.ref 0 rfl) ?_
          refine hd_ipush (z := 70) pkX14_addPlain rfl ?_
          refine hd_iload pkX14_addPlain rfl rfl ?_
          refine hd_imul pkX14_addPlain rfl (by omega) ?_
          refine hd_iald (n := 48300) pkX14_addPlain rfl (ghh7.cell 1 rfl) (by omega) (by omega) (fun v10 ev10 rv10 => ?_)
          refine hd_iast (n := 48300) pkX14_addPlain rfl (ghh7.cell 1 rfl) (by decide) (by omega) (by omega) (fun hh11 ehh11 => ?_)
          have ghh11 : Str t14 r14 hh11 := by rw [ehh11]; exact ghh7.setA rfl
          refine hd_iinc (z := 1) pkX14_addPlain rfl rfl (by omega) rfl ?_
          change MW _ _ _ _ _ [(5, (0, (k + 1))), (4, (0, (((x + y) + c) / 16777216))), (6, (0, ((x + y) + c))), (0, (2, ((2495 : Nat) : Int))), (1, (0, a)), (2, (0, b)), (3, (0, l))] _ _
          refine hd_goto pkX14_addPlain rfl ?_
          have hp : 0 ≤ 70 * a := by omega
          have ez : ∀ i : Int, 0 ≤ i → ga hh11 2496 i = if i = 70 * a then v10 else if i = 70 * a + k then (x + y + c) % 16777216 else ga h9 2496 i := fun i hi => by
            subst ehh11 ehh7
            rw [ga_sa _ _ _ (by omega) hi, ga_sa _ _ _ (by omega) hi]
          have st := add_step (Z := ga h9 2496) (Z' := ga hh11 2496) (Z0 := ga h 2496) (by decide) ha k1 (by omega) i6 i7 (px.trans qa.1) (py.trans qb.1) (by rw [ez _ (by omega), if_neg (by omega), if_pos rfl]) (fun i p q r => by rw [ez i p, if_neg r, if_neg q])
          refine m_sub [(0, (2, ((2495 : Nat) : Int))), (1, (0, a)), (2, (0, b)), (3, (0, l)), (4, (0, (((x + y) + c) / 16777216))), (5, (0, (k + 1)))] (List.forall_mem_cons.mpr ⟨rfl, List.forall_mem_cons.mpr ⟨rfl, List.forall_mem_cons.mpr ⟨rfl, List.forall_mem_cons.mpr ⟨rfl, List.forall_mem_cons.mpr ⟨rfl, List.forall_mem_cons.mpr ⟨rfl, fun _ h => absurd h List.not_mem_nil⟩⟩⟩⟩⟩⟩) ?_
          refine ih9  ((((x + y) + c) / 16777216)) ((k + 1)) hh11 ghh11 ?_ ?_ ?_ ?_ ?_ ?_ ?_ ?_ ?_ ?_ ?_
          · subst ehh11 ehh7
            exact (io.set (by decide)).set (by decide)
          · omega
          · omega
          · omega
          · intro i p q
            rw [ez i p, if_neg (by omega), if_neg (by omega)]
            exact i4 i p (by omega)
          · rw [ez _ (by omega), if_pos rfl]
            have w := ez (70 * a) (by omega)
            omega
          · have e : k + 1 - 1 = k := by omega
            rw [e]
            exact st.1
          · have e : k + 1 - 1 = k := by omega
            rw [e]
            exact st.2
          · intro q
            have e1 : lb (ga h 2496) 70 a k = 0 := by unfold lb; exact if_neg (by omega)
            have e2 : lb (ga h 2496) 70 b k = 0 := by unfold lb; exact if_neg (by omega)
            omega
          · subst ehh11 ehh7
            intro j
            rw [ga_ne _ _ _ _ (by decide), ga_ne _ _ _ _ (by decide)]
            exact i9 j
          · omega
        · skip
          refine hd_iload pkX14_addPlain rfl rfl ?_
          refine hd_goto pkX14_addPlain rfl ?_
          refine hd_iast (n := 48300) pkX14_addPlain rfl (ghh7.cell 1 rfl) (by decide) (by omega) (by omega) (fun hh12 ehh12 => ?_)
          have ghh12 : Str t14 r14 hh12 := by rw [ehh12]; exact ghh7.setA rfl
          refine hd_iinc (z := 1) pkX14_addPlain rfl rfl (by omega) rfl ?_
          change MW _ _ _ _ _ [(5, (0, (k + 1))), (4, (0, (((x + y) + c) / 16777216))), (6, (0, ((x + y) + c))), (0, (2, ((2495 : Nat) : Int))), (1, (0, a)), (2, (0, b)), (3, (0, l))] _ _
          refine hd_goto pkX14_addPlain rfl ?_
          have hp : 0 ≤ 70 * a := by omega
          have ez : ∀ i : Int, 0 ≤ i → ga hh12 2496 i = if i = 70 * a then k else if i = 70 * a + k then (x + y + c) % 16777216 else ga h9 2496 i := fun i hi => by
            subst ehh12 ehh7
            rw [ga_sa _ _ _ (by omega) hi, ga_sa _ _ _ (by omega) hi]
          have st := add_step (Z := ga h9 2496) (Z' := ga hh12 2496) (Z0 := ga h 2496) (by decide) ha k1 (by omega) i6 i7 (px.trans qa.1) (py.trans qb.1) (by rw [ez _ (by omega), if_neg (by omega), if_pos rfl]) (fun i p q r => by rw [ez i p, if_neg r, if_neg q])
          refine m_sub [(0, (2, ((2495 : Nat) : Int))), (1, (0, a)), (2, (0, b)), (3, (0, l)), (4, (0, (((x + y) + c) / 16777216))), (5, (0, (k + 1)))] (List.forall_mem_cons.mpr ⟨rfl, List.forall_mem_cons.mpr ⟨rfl, List.forall_mem_cons.mpr ⟨rfl, List.forall_mem_cons.mpr ⟨rfl, List.forall_mem_cons.mpr ⟨rfl, List.forall_mem_cons.mpr ⟨rfl, fun _ h => absurd h List.not_mem_nil⟩⟩⟩⟩⟩⟩) ?_
          refine ih9  ((((x + y) + c) / 16777216)) ((k + 1)) hh12 ghh12 ?_ ?_ ?_ ?_ ?_ ?_ ?_ ?_ ?_ ?_ ?_
          · subst ehh12 ehh7
            exact (io.set (by decide)).set (by decide)
          · omega
          · omega
          · omega
          · intro i p q
            rw [ez i p, if_neg (by omega), if_neg (by omega)]
            exact i4 i p (by omega)
          · rw [ez _ (by omega), if_pos rfl]
            have w := ez (70 * a) (by omega)
            omega
          · have e : k + 1 - 1 = k := by omega
            rw [e]
            exact st.1
          · have e : k + 1 - 1 = k := by omega
            rw [e]
            exact st.2
          · intro q
            have e1 : lb (ga h 2496) 70 a k = 0 := by unfold lb; exact if_neg (by omega)
            have e2 : lb (ga h 2496) 70 b k = 0 := by unfold lb; exact if_neg (by omega)
            omega
          · subst ehh12 ehh7
            intro j
            rw [ga_ne _ _ _ _ (by decide), ga_ne _ _ _ _ (by decide)]
            exact i9 j
          · omega
  refine m_sub [(0, (2, ((2495 : Nat) : Int))), (1, (0, a)), (2, (0, b)), (3, (0, l)), (4, (0, 0)), (5, (0, 1))] (List.forall_mem_cons.mpr ⟨rfl, List.forall_mem_cons.mpr ⟨rfl, List.forall_mem_cons.mpr ⟨rfl, List.forall_mem_cons.mpr ⟨rfl, List.forall_mem_cons.mpr ⟨rfl, List.forall_mem_cons.mpr ⟨rfl, fun _ h => absurd h List.not_mem_nil⟩⟩⟩⟩⟩⟩) ?_
  refine lp9 ((l + 2 - (1)) + 1).toNat (0) (1) h g ?_ ?_ ?_ ?_ ?_ ?_ ?_ ?_ ?_ ?_ ?_
  · exact Only.refl _ _
  · omega
  · omega
  · omega
  · exact fun _ _ _ => rfl
  · refine ⟨fun q => ?_, fun _ => rfl⟩
    show sz (ga h 2496) 70 a = _
    omega
  · intro j p q
    omega
  · rfl
  · omega
  · exact fun _ => rfl
  · omega
set_option maxRecDepth 20000 in
set_option maxHeartbeats 8000000 in
theorem h_X14_takePlain {h : MH} {a b : Int} (ha : 0 ≤ a) (ha2 : a < 690) (hb : 0 ≤ b) (hb2 : b < 690) (A : Num (ga h 2496) 70 a) (B : Num (ga h 2496) 70 b) (hv : vl (ga h 2496) 70 b ≤ vl (ga h 2496) 70 a) (g : Str t14 r14 h) : MCal KX14_takePlain yX14_takePlain 0 0 [(2, ((2495 : Nat) : Int)), (0, a), (0, b)] h (mRV fun h' => Ch 70 2496 2497 [a] h h' ∧ Num (ga h' 2496) 70 a ∧ vl (ga h' 2496) 70 a = vl (ga h 2496) 70 a - vl (ga h 2496) 70 b ∧ sz (ga h' 2496) 70 a ≤ sz (ga h 2496) 70 a ∧ ga h' 2497 a = (if sz (ga h' 2496) 70 a = 0 then 0 else ga h 2497 a)) := by
  refine MCal.ofMW (Or.inl rfl) ⟨cp_X14, rfl⟩ (Nat.le_of_ble_eq_true rfl) ?_
  generalize eQ : (mRV fun h' => Ch 70 2496 2497 [a] h h' ∧ Num (ga h' 2496) 70 a ∧ vl (ga h' 2496) 70 a = vl (ga h 2496) 70 a - vl (ga h 2496) 70 b ∧ sz (ga h' 2496) 70 a ≤ sz (ga h 2496) 70 a ∧ ga h' 2497 a = (if sz (ga h' 2496) 70 a = 0 then 0 else ga h 2497 a) : MO → MH → Prop) = Q
  change MW KX14_takePlain Q 0 0 (pcA pgX14_takePlain 0) [(0, (2, ((2495 : Nat) : Int))), (1, (0, a)), (2, (0, b))] [] h
  refine hd_locI (i := 1) rfl (fun ra => ?_)
  refine hd_locI (i := 2) rfl (fun rb => ?_)
  have A1 := A.1
  have A2 := A.2.1
  have B1 := B.1
  have B2 := B.2.1
  have az : sz (ga h 2496) 70 a = ga h 2496 (70 * a) := rfl
  refine hd_ipush (z := 0) pkX14_takePlain rfl ?_
  refine hd_istore pkX14_takePlain rfl rfl ?_
  change MW _ _ _ _ _ [(3, (0, 0)), (0, (2, ((2495 : Nat) : Int))), (1, (0, a)), (2, (0, b))] _ _
  refine hd_aload pkX14_takePlain rfl rfl (Int.natCast_nonneg _) ?_
  refine hd_getR (n := 2496) pkX14_takePlain rfl (g.cell 0 rfl).1 (g.cell 0 rfl).2.1 (g.ref 0 rfl) ?_
  refine hd_ipush (z := 70) pkX14_takePlain rfl ?_
  refine hd_iload pkX14_takePlain rfl rfl ?_
  refine hd_imul pkX14_takePlain rfl (by omega) ?_
  refine hd_iald (n := 48300) pkX14_takePlain rfl (g.cell 1 rfl) (by omega) (by omega) (fun v1 ev1 rv1 => ?_)
  refine hd_istore pkX14_takePlain rfl rfl ?_
  change MW _ _ _ _ _ [(4, (0, v1)), (3, (0, 0)), (0, (2, ((2495 : Nat) : Int))), (1, (0, a)), (2, (0, b))] _ _
  refine hd_ipush (z := 1) pkX14_takePlain rfl ?_
  refine hd_istore pkX14_takePlain rfl rfl ?_
  change MW _ _ _ _ _ [(5, (0, 1)), (4, (0, v1)), (3, (0, 0)), (0, (2, ((2495 : Nat) : Int))), (1, (0, a)), (2, (0, b))] _ _
  have lp11 : ∀ (N11 : Nat) (c k : Int) (h9 : MH), Str t14 r14 h9 → (Only [2496, 2497] h h9) → (1 ≤ k) → (k ≤ v1 + 1) → (0 ≤ c ∧ c ≤ 1) → (∀ i : Int, 0 ≤ i → ¬ (70 * a + 1 ≤ i ∧ i < 70 * a + k) → ga h9 2496 i = ga h 2496 i) → (Dg (ga h9 2496) 70 a (k - 1)) → (bl (lm (ga h9 2496) 70 a) (k - 1).toNat + bl (lb (ga h 2496) 70 b) (k - 1).toNat = bl (lb (ga h 2496) 70 a) (k - 1).toNat + c * PW (k - 1).toNat) → (∀ j : Int, ga h9 2497 j = ga h 2497 j) → v1 + 1 - k < (N11 : Int) → MW KX14_takePlain Q 0 0 (pcA pgX14_takePlain 11) [(0, (2, ((2495 : Nat) : Int))), (1, (0, a)), (2, (0, b)), (3, (0, c)), (4, (0, v1)), (5, (0, k))] [] h9 := by
    intro N11
    induction N11 with
    | zero => intro c k h9 g11 io k1 k2 c1 i4 i6 i7 i9 hm11; exfalso; omega
    | succ N11 ih11 =>
      intro c k h9 g11 io k1 k2 c1 i4 i6 i7 i9 hm11
      have sa1 : sz (ga h 2496) 70 a = v1 := by show ga h 2496 (70 * a) = v1; omega
      refine hd_iload pkX14_takePlain rfl rfl ?_
      refine hd_iload pkX14_takePlain rfl rfl ?_
      refine hd_ic_gt pkX14_takePlain rfl (fun c2 => ?_) (fun c2 => ?_)
      · skip
        refine hd_aload pkX14_takePlain rfl rfl (Int.natCast_nonneg _) ?_
        refine hd_iload pkX14_takePlain rfl rfl ?_
        refine hd_iload pkX14_takePlain rfl rfl ?_
        have hd9 : Dg (ga h9 2496) 70 a v1 := by
          have e : v1 = k - 1 := by omega
          rw [e]
          exact i6
        refine hd_callV pkX14_takePlain rfl (q := (KX14_trim, yX14_trim, 14, 2, 0)) rfl rfl rfl (As := [(0, a), (0, v1)]) (rest := []) (c := 2495) rfl rfl (Nat.le_of_ble_eq_true rfl) (g11.cell 0 rfl).1 (g11.cell 0 rfl).2.1 (h_X14_trim ha ha2 (by omega) (by omega) hd9 g11) (hd_bV (fun hc3 pt => ?_))
        have ghc3 : Str t14 r14 hc3 := g11.only pt.1.1 (by decide)
        refine hd_vret pkX14_takePlain rfl ?_
        subst eQ
        have e1 : (k - 1).toNat = v1.toNat := by omega
        have sb1 : sz (ga h 2496) 70 b ≤ v1 := by
          have := vl_lt A (m := v1.toNat) (by omega)
          have := sz_le B (m := v1.toNat) (by omega)
          omega
        have e2 := vl_lb A (m := v1.toNat) (by omega)
        have e3 := vl_lb B (m := v1.toNat) (by omega)
        have r6 := (bl_rng (f := lm (ga h9 2496) 70 a) v1.toNat (fun j p q => i6 j p (by omega))).2
        rw [e1, ← e2, ← e3] at i7
        have e4 := sub_end i7 c1 r6 hv
        refine ⟨rfl, ⟨Only.trans io pt.1.1, fun i p q => ?_, fun j p q => ?_⟩, pt.2.1, ?_, by have := pt.2.2.2.1; omega, ?_⟩
        · rw [pt.1.2.1 i p q]
          have := q a List.mem_cons_self
          exact i4 i p (by omega)
        · rw [pt.1.2.2 j p q]
          exact i9 j
        · rw [pt.2.2.1, e4]
        · rw [pt.2.2.2.2, i9 a]
      · skip
        have kW : k < 70 := by omega
        have qa := sub_lb (Z := ga h9 2496) (Z0 := ga h 2496) (by decide) ha ha k1 kW i4
        have qb := sub_lb (Z := ga h9 2496) (Z0 := ga h 2496) (by decide) ha hb k1 kW i4
        have ra9 := lb_rng A (j := k) k1
        have rb9 := lb_rng B (j := k) k1
        refine hd_aload pkX14_takePlain rfl rfl (Int.natCast_nonneg _) ?_
        refine hd_iload pkX14_takePlain rfl rfl ?_
        refine hd_iload pkX14_takePlain rfl rfl ?_
        refine hd_callV pkX14_takePlain rfl (q := (KX14_limb, yX14_limb, 14, 2, 0)) rfl rfl rfl (As := [(0, a), (0, k)]) (rest := []) (c := 2495) rfl rfl (Nat.le_of_ble_eq_true rfl) (g11.cell 0 rfl).1 (g11.cell 0 rfl).2.1 (h_X14_limb ha ha2 (by omega) (by omega) (by omega) g11) (hd_bI (fun x hc4 px => ?_))
        obtain ⟨px, ehc4⟩ := px
        replace ehc4 := ehc4.symm
        subst ehc4
        refine hd_aload pkX14_takePlain rfl rfl (Int.natCast_nonneg _) ?_
        refine hd_iload pkX14_takePlain rfl rfl ?_
        refine hd_iload pkX14_takePlain rfl rfl ?_
        refine hd_callV pkX14_takePlain rfl (q := (KX14_limb, yX14_limb, 14, 2, 0)) rfl rfl rfl (As := [(0, b), (0, k)]) (rest := [(0, x)]) (c := 2495) rfl rfl (Nat.le_of_ble_eq_true rfl) (g11.cell 0 rfl).1 (g11.cell 0 rfl).2.1 (h_X14_limb hb hb2 (by omega) (by omega) (by omega) g11) (hd_bI (fun y hc5 py => ?_))
        obtain ⟨py, ehc5⟩ := py
        replace ehc5 := ehc5.symm
        subst ehc5
        refine hd_isub pkX14_takePlain rfl (by omega) ?_
        refine hd_iload pkX14_takePlain rfl rfl ?_
        refine hd_isub pkX14_takePlain rfl (by omega) ?_
        refine hd_istore pkX14_takePlain rfl rfl ?_
        change MW _ _ _ _ _ [(6, (0, ((x - y) - c))), (0, (2, ((2495 : Nat) : Int))), (1, (0, a)), (2, (0, b)), (3, (0, c)), (4, (0, v1)), (5, (0, k))] _ _
        refine hd_iload pkX14_takePlain rfl rfl ?_
        refine hd_if_ge pkX14_takePlain rfl (fun c6 => ?_) (fun c6 => ?_)
        · skip
          refine hd_ipush (z := 0) pkX14_takePlain rfl ?_
          refine hd_istore pkX14_takePlain rfl rfl ?_
          change MW _ _ _ _ _ [(3, (0, 0)), (6, (0, ((x - y) - c))), (0, (2, ((2495 : Nat) : Int))), (1, (0, a)), (2, (0, b)), (4, (0, v1)), (5, (0, k))] _ _
          refine hd_aload pkX14_takePlain rfl rfl (Int.natCast_nonneg _) ?_
          refine hd_getR (n := 2496) pkX14_takePlain rfl (g11.cell 0 rfl).1 (g11.cell 0 rfl).2.1 (g11.ref 0 rfl) ?_
          refine hd_ipush (z := 70) pkX14_takePlain rfl ?_
          refine hd_iload pkX14_takePlain rfl rfl ?_
          refine hd_imul pkX14_takePlain rfl (by omega) ?_
          refine hd_iload pkX14_takePlain rfl rfl ?_
          refine hd_iadd pkX14_takePlain rfl (by omega) ?_
          refine hd_iload pkX14_takePlain rfl rfl ?_
          refine hd_ipush (z := 16777215) pkX14_takePlain rfl ?_
          refine hd_iand (v := (((x - y) - c) % 16777216)) pkX14_takePlain rfl (by exact h_and32 _) ?_
          refine hd_iast (n := 48300) pkX14_takePlain rfl (g11.cell 1 rfl) (by decide) (by omega) (by omega) (fun hh7 ehh7 => ?_)
          have ghh7 : Str t14 r14 hh7 := by rw [ehh7]; exact g11.setA rfl
          refine hd_iinc (z := 1) pkX14_takePlain rfl rfl (by omega) rfl ?_
          change MW _ _ _ _ _ [(5, (0, (k + 1))), (3, (0, 0)), (6, (0, ((x - y) - c))), (0, (2, ((2495 : Nat) : Int))), (1, (0, a)), (2, (0, b)), (4, (0, v1))] _ _
          refine hd_goto pkX14_takePlain rfl ?_
          have ez : ∀ i : Int, 0 ≤ i → ga hh7 2496 i = if i = 70 * a + k then (x - y - c) % 16777216 else ga h9 2496 i := fun i hi => by
            subst ehh7
            rw [ga_sa _ _ _ (by omega) hi]
          have st := sub_step (Z := ga h9 2496) (Z' := ga hh7 2496) (Z0 := ga h 2496) (c' := 0) (by decide) ha k1 kW i6 i7 (px.trans qa.1) (py.trans qb.1) (by omega) (by omega) c1 (by split <;> omega) (by rw [ez _ (by omega), if_pos rfl]) (fun i p q => by rw [ez i p, if_neg q])
          refine m_sub [(0, (2, ((2495 : Nat) : Int))), (1, (0, a)), (2, (0, b)), (3, (0, 0)), (4, (0, v1)), (5, (0, (k + 1)))] (List.forall_mem_cons.mpr ⟨rfl, List.forall_mem_cons.mpr ⟨rfl, List.forall_mem_cons.mpr ⟨rfl, List.forall_mem_cons.mpr ⟨rfl, List.forall_mem_cons.mpr ⟨rfl, List.forall_mem_cons.mpr ⟨rfl, fun _ h => absurd h List.not_mem_nil⟩⟩⟩⟩⟩⟩) ?_
          refine ih11  (0) ((k + 1)) hh7 ghh7 ?_ ?_ ?_ ?_ ?_ ?_ ?_ ?_ ?_
          · subst ehh7
            exact io.set (by decide)
          · omega
          · omega
          · omega
          · intro i p q
            rw [ez i p, if_neg (by omega)]
            exact i4 i p (by omega)
          · have e : k + 1 - 1 = k := by omega
            rw [e]
            exact st.1
          · have e : k + 1 - 1 = k := by omega
            rw [e]
            exact st.2
          · subst ehh7
            intro j
            rw [ga_ne _ _ _ _ (by decide)]
            exact i9 j
          · omega
        · skip
          refine hd_ipush (z := 1) pkX14_takePlain rfl ?_
          refine hd_goto pkX14_takePlain rfl ?_
          refine hd_istore pkX14_takePlain rfl rfl ?_
          change MW _ _ _ _ _ [(3, (0, 1)), (6, (0, ((x - y) - c))), (0, (2, ((2495 : Nat) : Int))), (1, (0, a)), (2, (0, b)), (4, (0, v1)), (5, (0, k))] _ _
          refine hd_aload pkX14_takePlain rfl rfl (Int.natCast_nonneg _) ?_
          refine hd_getR (n := 2496) pkX14_takePlain rfl (g11.cell 0 rfl).1 (g11.cell 0 rfl).2.1 (g11.ref 0 rfl) ?_
          refine hd_ipush (z := 70) pkX14_takePlain rfl ?_
          refine hd_iload pkX14_takePlain rfl rfl ?_
          refine hd_imul pkX14_takePlain rfl (by omega) ?_
          refine hd_iload pkX14_takePlain rfl rfl ?_
          refine hd_iadd pkX14_takePlain rfl (by omega) ?_
          refine hd_iload pkX14_takePlain rfl rfl ?_
          refine hd_ipush (z := 16777215) pkX14_takePlain rfl ?_
          refine hd_iand (v := (((x - y) - c) % 16777216)) pkX14_takePlain rfl (by exact h_and32 _) ?_
          refine hd_iast (n := 48300) pkX14_takePlain rfl (g11.cell 1 rfl) (by decide) (by omega) (by omega) (fun hh8 ehh8 => ?_)
          have ghh8 : Str t14 r14 hh8 := by rw [ehh8]; exact g11.setA rfl
          refine hd_iinc (z := 1) pkX14_takePlain rfl rfl (by omega) rfl ?_
          change MW _ _ _ _ _ [(5, (0, (k + 1))), (3, (0, 1)), (6, (0, ((x - y) - c))), (0, (2, ((2495 : Nat) : Int))), (1, (0, a)), (2, (0, b)), (4, (0, v1))] _ _
          refine hd_goto pkX14_takePlain rfl ?_
          have ez : ∀ i : Int, 0 ≤ i → ga hh8 2496 i = if i = 70 * a + k then (x - y - c) % 16777216 else ga h9 2496 i := fun i hi => by
            subst ehh8
            rw [ga_sa _ _ _ (by omega) hi]
          have st := sub_step (Z := ga h9 2496) (Z' := ga hh8 2496) (Z0 := ga h 2496) (c' := 1) (by decide) ha k1 kW i6 i7 (px.trans qa.1) (py.trans qb.1) (by omega) (by omega) c1 (by split <;> omega) (by rw [ez _ (by omega), if_pos rfl]) (fun i p q => by rw [ez i p, if_neg q])
          refine m_sub [(0, (2, ((2495 : Nat) : Int))), (1, (0, a)), (2, (0, b)), (3, (0, 1)), (4, (0, v1)), (5, (0, (k + 1)))] (List.forall_mem_cons.mpr ⟨rfl, List.forall_mem_cons.mpr ⟨rfl, List.forall_mem_cons.mpr ⟨rfl, List.forall_mem_cons.mpr ⟨rfl, List.forall_mem_cons.mpr ⟨rfl, List.forall_mem_cons.mpr ⟨rfl, fun _ h => absurd h List.not_mem_nil⟩⟩⟩⟩⟩⟩) ?_
          refine ih11  (1) ((k + 1)) hh8 ghh8 ?_ ?_ ?_ ?_ ?_ ?_ ?_ ?_ ?_
          · subst ehh8
            exact io.set (by decide)
          · omega
          · omega
          · omega
          · intro i p q
            rw [ez i p, if_neg (by omega)]
            exact i4 i p (by omega)
          · have e : k + 1 - 1 = k := by omega
            rw [e]
            exact st.1
          · have e : k + 1 - 1 = k := by omega
            rw [e]
            exact st.2
          · subst ehh8
            intro j
            rw [ga_ne _ _ _ _ (by decide)]
            exact i9 j
          · omega
  refine m_sub [(0, (2, ((2495 : Nat) : Int))), (1, (0, a)), (2, (0, b)), (3, (0, 0)), (4, (0, v1)), (5, (0, 1))] (List.forall_mem_cons.mpr ⟨rfl, List.forall_mem_cons.mpr ⟨rfl, List.forall_mem_cons.mpr ⟨rfl, List.forall_mem_cons.mpr ⟨rfl, List.forall_mem_cons.mpr ⟨rfl, List.forall_mem_cons.mpr ⟨rfl, fun _ h => absurd h List.not_mem_nil⟩⟩⟩⟩⟩⟩) ?_
  refine lp11 ((v1 + 1 - (1)) + 1).toNat (0) (1) h g ?_ ?_ ?_ ?_ ?_ ?_ ?_ ?_ ?_
  · exact Only.refl _ _
  · omega
  · have sa1 : sz (ga h 2496) 70 a = v1 := by show ga h 2496 (70 * a) = v1; omega
    omega
  · omega
  · exact fun _ _ _ => rfl
  · intro j p q
    omega
  · rfl
  · exact fun _ => rfl
  · omega
set_option maxRecDepth 20000 in
set_option maxHeartbeats 8000000 in
theorem h_X14_halve {h : MH} {a : Int} (ha : 0 ≤ a) (ha2 : a < 690) (A : Num (ga h 2496) 70 a) (g : Str t14 r14 h) : MCal KX14_halve yX14_halve 0 0 [(2, ((2495 : Nat) : Int)), (0, a)] h (mRV fun h' => Ch 70 2496 2497 [a] h h' ∧ Num (ga h' 2496) 70 a ∧ vl (ga h' 2496) 70 a = vl (ga h 2496) 70 a / 2 ∧ sz (ga h' 2496) 70 a ≤ sz (ga h 2496) 70 a ∧ ga h' 2497 a = (if sz (ga h' 2496) 70 a = 0 then 0 else ga h 2497 a)) := by
  refine MCal.ofMW (Or.inl rfl) ⟨cp_X14, rfl⟩ (Nat.le_of_ble_eq_true rfl) ?_
  generalize eQ : (mRV fun h' => Ch 70 2496 2497 [a] h h' ∧ Num (ga h' 2496) 70 a ∧ vl (ga h' 2496) 70 a = vl (ga h 2496) 70 a / 2 ∧ sz (ga h' 2496) 70 a ≤ sz (ga h 2496) 70 a ∧ ga h' 2497 a = (if sz (ga h' 2496) 70 a = 0 then 0 else ga h 2497 a) : MO → MH → Prop) = Q
  change MW KX14_halve Q 0 0 (pcA pgX14_halve 0) [(0, (2, ((2495 : Nat) : Int))), (1, (0, a))] [] h
  refine hd_locI (i := 1) rfl (fun ra => ?_)
  have A1 := A.1
  have A2 := A.2.1
  have az : sz (ga h 2496) 70 a = ga h 2496 (70 * a) := rfl
  refine hd_aload pkX14_halve rfl rfl (Int.natCast_nonneg _) ?_
  refine hd_getR (n := 2496) pkX14_halve rfl (g.cell 0 rfl).1 (g.cell 0 rfl).2.1 (g.ref 0 rfl) ?_
  refine hd_ipush (z := 70) pkX14_halve rfl ?_
  refine hd_iload pkX14_halve rfl rfl ?_
  refine hd_imul pkX14_halve rfl (by omega) ?_
  refine hd_iald (n := 48300) pkX14_halve rfl (g.cell 1 rfl) (by omega) (by omega) (fun v1 ev1 rv1 => ?_)
  refine hd_istore pkX14_halve rfl rfl ?_
  change MW _ _ _ _ _ [(2, (0, v1)), (0, (2, ((2495 : Nat) : Int))), (1, (0, a))] _ _
  refine hd_ipush (z := 1) pkX14_halve rfl ?_
  refine hd_istore pkX14_halve rfl rfl ?_
  change MW _ _ _ _ _ [(3, (0, 1)), (2, (0, v1)), (0, (2, ((2495 : Nat) : Int))), (1, (0, a))] _ _
  have lp9 : ∀ (N9 : Nat) (k : Int) (h9 : MH), Str t14 r14 h9 → (Only [2496, 2497] h h9) → (1 ≤ k) → (k ≤ v1 + 1) → (∀ i : Int, 0 ≤ i → ¬ (70 * a + 1 ≤ i ∧ i < 70 * a + k) → ga h9 2496 i = ga h 2496 i) → (Dg (ga h9 2496) 70 a (k - 1)) → (2 * bl (lm (ga h9 2496) 70 a) (k - 1).toNat + lb (ga h 2496) 70 a 1 % 2 = bl (lm (ga h 2496) 70 a) (k - 1).toNat + lb (ga h 2496) 70 a k % 2 * PW (k - 1).toNat) → (∀ j : Int, ga h9 2497 j = ga h 2497 j) → v1 + 1 - k < (N9 : Int) → MW KX14_halve Q 0 0 (pcA pgX14_halve 9) [(0, (2, ((2495 : Nat) : Int))), (1, (0, a)), (2, (0, v1)), (3, (0, k))] [] h9 := by
    intro N9
    induction N9 with
    | zero => intro k h9 g9 io k1 k2 i4 i6 i7 i9 hm9; exfalso; omega
    | succ N9 ih9 =>
      intro k h9 g9 io k1 k2 i4 i6 i7 i9 hm9
      have sa1 : sz (ga h 2496) 70 a = v1 := by omega
      refine hd_iload pkX14_halve rfl rfl ?_
      refine hd_iload pkX14_halve rfl rfl ?_
      refine hd_ic_gt pkX14_halve rfl (fun c2 => ?_) (fun c2 => ?_)
      · skip
        refine hd_aload pkX14_halve rfl rfl (Int.natCast_nonneg _) ?_
        refine hd_iload pkX14_halve rfl rfl ?_
        refine hd_iload pkX14_halve rfl rfl ?_
        have hd9 : Dg (ga h9 2496) 70 a v1 := by
          have e : v1 = k - 1 := by omega
          rw [e]
          exact i6
        refine hd_callV pkX14_halve rfl (q := (KX14_trim, yX14_trim, 14, 2, 0)) rfl rfl rfl (As := [(0, a), (0, v1)]) (rest := []) (c := 2495) rfl rfl (Nat.le_of_ble_eq_true rfl) (g9.cell 0 rfl).1 (g9.cell 0 rfl).2.1 (h_X14_trim ha ha2 (by omega) (by omega) hd9 g9) (hd_bV (fun hc3 pt => ?_))
        have ghc3 : Str t14 r14 hc3 := g9.only pt.1.1 (by decide)
        refine hd_vret pkX14_halve rfl ?_
        subst eQ
        have e1 : (k - 1).toNat = v1.toNat := by omega
        have e5 : k = v1 + 1 := by omega
        have e6 : lb (ga h 2496) 70 a k = 0 := by
          unfold lb
          rw [if_neg (by omega)]
        have sa2 : (sz (ga h 2496) 70 a).toNat = v1.toNat := by omega
        rw [e1, e6] at i7
        have e4 : 2 * bl (lm (ga h9 2496) 70 a) v1.toNat + lb (ga h 2496) 70 a 1 % 2 = vl (ga h 2496) 70 a := by
          unfold vl
          rw [sa2, i7]
          show _ + 0 * _ = _
          rw [Int.zero_mul, Int.add_zero]
        refine ⟨rfl, ⟨Only.trans io pt.1.1, fun i p q => ?_, fun j p q => ?_⟩, pt.2.1, ?_, by have := pt.2.2.2.1; omega, ?_⟩
        · rw [pt.1.2.1 i p q]
          have := q a List.mem_cons_self
          exact i4 i p (by omega)
        · rw [pt.1.2.2 j p q]
          exact i9 j
        · rw [pt.2.2.1]
          omega
        · rw [pt.2.2.2.2, i9 a]
      · skip
        have kW : k < 70 := by omega
        have qa := sub_lb (Z := ga h9 2496) (Z0 := ga h 2496) (by decide) ha ha k1 kW i4
        have qn : ga h9 2496 (70 * a + k + 1) = ga h 2496 (70 * a + k + 1) := i4 _ (by omega) (by omega)
        have qk : ga h9 2496 (70 * a + k) = lm (ga h 2496) 70 a k := qa.2.2
        have ln : k < v1 → lb (ga h 2496) 70 a (k + 1) = ga h 2496 (70 * a + k + 1) := fun q => by
          unfold lb lm
          rw [if_pos (by omega), Int.add_assoc]
        have lz : ¬ k < v1 → lb (ga h 2496) 70 a (k + 1) = 0 := fun q => by
          unfold lb
          rw [if_neg (by omega)]
        have rl := lb_rng A (j := k + 1) (by omega)
        refine hd_aload pkX14_halve rfl rfl (Int.natCast_nonneg _) ?_
        refine hd_getR (n := 2496) pkX14_halve rfl (g9.cell 0 rfl).1 (g9.cell 0 rfl).2.1 (g9.ref 0 rfl) ?_
        refine hd_ipush (z := 70) pkX14_halve rfl ?_
        refine hd_iload pkX14_halve rfl rfl ?_
        refine hd_imul pkX14_halve rfl (by omega) ?_
        refine hd_iload pkX14_halve rfl rfl ?_
        refine hd_iadd pkX14_halve rfl (by omega) ?_
        refine hd_aload pkX14_halve rfl rfl (Int.natCast_nonneg _) ?_
        refine hd_getR (n := 2496) pkX14_halve rfl (g9.cell 0 rfl).1 (g9.cell 0 rfl).2.1 (g9.ref 0 rfl) ?_
        refine hd_ipush (z := 70) pkX14_halve rfl ?_
        refine hd_iload pkX14_halve rfl rfl ?_
        refine hd_imul pkX14_halve rfl (by omega) ?_
        refine hd_iload pkX14_halve rfl rfl ?_
        refine hd_iadd pkX14_halve rfl (by omega) ?_
        refine hd_iald (n := 48300) pkX14_halve rfl (g9.cell 1 rfl) (by omega) (by omega) (fun v4 ev4 rv4 => ?_)
        refine hd_ipush (z := 1) pkX14_halve rfl ?_
        refine hd_ishr (v := (v4 / 2)) pkX14_halve rfl (by exact h_shr1 (by omega)) ?_
        refine hd_iload pkX14_halve rfl rfl ?_
        refine hd_iload pkX14_halve rfl rfl ?_
        refine hd_ic_ge pkX14_halve rfl (fun c5 => ?_) (fun c5 => ?_)
        · skip
          refine hd_ipush (z := 0) pkX14_halve rfl ?_
          refine hd_ipush (z := 23) pkX14_halve rfl ?_
          refine hd_ishl (v := (0 * 8388608)) pkX14_halve rfl (by exact h_shl23 (by omega) (by omega)) ?_
          refine hd_iadd pkX14_halve rfl (by omega) ?_
          refine hd_iast (n := 48300) pkX14_halve rfl (g9.cell 1 rfl) (by decide) (by omega) (by omega) (fun hh6 ehh6 => ?_)
          have ghh6 : Str t14 r14 hh6 := by rw [ehh6]; exact g9.setA rfl
          refine hd_iinc (z := 1) pkX14_halve rfl rfl (by omega) rfl ?_
          change MW _ _ _ _ _ [(3, (0, (k + 1))), (0, (2, ((2495 : Nat) : Int))), (1, (0, a)), (2, (0, v1))] _ _
          refine hd_goto pkX14_halve rfl ?_
          have ez : ∀ i : Int, 0 ≤ i → ga hh6 2496 i = if i = 70 * a + k then ((v4 / 2) + (0 * 8388608)) else ga h9 2496 i := fun i hi => by
            subst ehh6
            rw [ga_sa _ _ _ (by omega) hi]
          have st := half_step (Z := ga h9 2496) (Z' := ga hh6 2496) (Z0 := ga h 2496) (y := lb (ga h 2496) 70 a (k + 1) % 2) (by decide) ha k1 kW (A.2.2.1 k k1 (by omega)) i6 i7 (by omega) rfl (by rw [ez _ (by omega), if_pos rfl]; omega) (fun i p q => by rw [ez i p, if_neg q])
          refine m_sub [(0, (2, ((2495 : Nat) : Int))), (1, (0, a)), (2, (0, v1)), (3, (0, (k + 1)))] (List.forall_mem_cons.mpr ⟨rfl, List.forall_mem_cons.mpr ⟨rfl, List.forall_mem_cons.mpr ⟨rfl, List.forall_mem_cons.mpr ⟨rfl, fun _ h => absurd h List.not_mem_nil⟩⟩⟩⟩) ?_
          refine ih9  ((k + 1)) hh6 ghh6 ?_ ?_ ?_ ?_ ?_ ?_ ?_ ?_
          · subst ehh6
            exact io.set (by decide)
          · omega
          · omega
          · intro i p q
            rw [ez i p, if_neg (by omega)]
            exact i4 i p (by omega)
          · have e : k + 1 - 1 = k := by omega
            rw [e]
            exact st.1
          · have e : k + 1 - 1 = k := by omega
            rw [e]
            exact st.2
          · subst ehh6
            intro j
            rw [ga_ne _ _ _ _ (by decide)]
            exact i9 j
          · omega
        · skip
          refine hd_aload pkX14_halve rfl rfl (Int.natCast_nonneg _) ?_
          refine hd_getR (n := 2496) pkX14_halve rfl (g9.cell 0 rfl).1 (g9.cell 0 rfl).2.1 (g9.ref 0 rfl) ?_
          refine hd_ipush (z := 70) pkX14_halve rfl ?_
          refine hd_iload pkX14_halve rfl rfl ?_
          refine hd_imul pkX14_halve rfl (by omega) ?_
          refine hd_iload pkX14_halve rfl rfl ?_
          refine hd_iadd pkX14_halve rfl (by omega) ?_
          refine hd_ipush (z := 1) pkX14_halve rfl ?_
          refine hd_iadd pkX14_halve rfl (by omega) ?_
          refine hd_iald (n := 48300) pkX14_halve rfl (g9.cell 1 rfl) (by omega) (by omega) (fun v7 ev7 rv7 => ?_)
          refine hd_ipush (z := 1) pkX14_halve rfl ?_
          refine hd_iand (v := (v7 % 2)) pkX14_halve rfl (by exact h_and1 _) ?_
          refine hd_goto pkX14_halve rfl ?_
          refine hd_ipush (z := 23) pkX14_halve rfl ?_
          refine hd_ishl (v := ((v7 % 2) * 8388608)) pkX14_halve rfl (by exact h_shl23 (by omega) (by omega)) ?_
          refine hd_iadd pkX14_halve rfl (by omega) ?_
          refine hd_iast (n := 48300) pkX14_halve rfl (g9.cell 1 rfl) (by decide) (by omega) (by omega) (fun hh8 ehh8 => ?_)
          have ghh8 : Str t14 r14 hh8 := by rw [ehh8]; exact g9.setA rfl
          refine hd_iinc (z := 1) pkX14_halve rfl rfl (by omega) rfl ?_
          change MW _ _ _ _ _ [(3, (0, (k + 1))), (0, (2, ((2495 : Nat) : Int))), (1, (0, a)), (2, (0, v1))] _ _
          refine hd_goto pkX14_halve rfl ?_
          have ez : ∀ i : Int, 0 ≤ i → ga hh8 2496 i = if i = 70 * a + k then ((v4 / 2) + ((v7 % 2) * 8388608)) else ga h9 2496 i := fun i hi => by
            subst ehh8
            rw [ga_sa _ _ _ (by omega) hi]
          have st := half_step (Z := ga h9 2496) (Z' := ga hh8 2496) (Z0 := ga h 2496) (y := lb (ga h 2496) 70 a (k + 1) % 2) (by decide) ha k1 kW (A.2.2.1 k k1 (by omega)) i6 i7 (by omega) rfl (by rw [ez _ (by omega), if_pos rfl]; omega) (fun i p q => by rw [ez i p, if_neg q])
          refine m_sub [(0, (2, ((2495 : Nat) : Int))), (1, (0, a)), (2, (0, v1)), (3, (0, (k + 1)))] (List.forall_mem_cons.mpr ⟨rfl, List.forall_mem_cons.mpr ⟨rfl, List.forall_mem_cons.mpr ⟨rfl, List.forall_mem_cons.mpr ⟨rfl, fun _ h => absurd h List.not_mem_nil⟩⟩⟩⟩) ?_
          refine ih9  ((k + 1)) hh8 ghh8 ?_ ?_ ?_ ?_ ?_ ?_ ?_ ?_
          · subst ehh8
            exact io.set (by decide)
          · omega
          · omega
          · intro i p q
            rw [ez i p, if_neg (by omega)]
            exact i4 i p (by omega)
          · have e : k + 1 - 1 = k := by omega
            rw [e]
            exact st.1
          · have e : k + 1 - 1 = k := by omega
            rw [e]
            exact st.2
          · subst ehh8
            intro j
            rw [ga_ne _ _ _ _ (by decide)]
            exact i9 j
          · omega
  refine m_sub [(0, (2, ((2495 : Nat) : Int))), (1, (0, a)), (2, (0, v1)), (3, (0, 1))] (List.forall_mem_cons.mpr ⟨rfl, List.forall_mem_cons.mpr ⟨rfl, List.forall_mem_cons.mpr ⟨rfl, List.forall_mem_cons.mpr ⟨rfl, fun _ h => absurd h List.not_mem_nil⟩⟩⟩⟩) ?_
  refine lp9 ((v1 + 1 - (1)) + 1).toNat (1) h g ?_ ?_ ?_ ?_ ?_ ?_ ?_ ?_
  · exact Only.refl _ _
  · omega
  · omega
  · exact fun _ _ _ => rfl
  · intro j p q
    omega
  · show 2 * 0 + _ = 0 + _ * 1
    omega
  · exact fun _ => rfl
  · omega
set_option maxRecDepth 20000 in
set_option maxHeartbeats 8000000 in
theorem h_X14_divide {h : MH} {a m : Int} (ha : 0 ≤ a) (ha2 : a < 690) (hm : 1 ≤ m) (hm2 : m ≤ 549755813887) (A : Num (ga h 2496) 70 a) (g : Str t14 r14 h) : MCal KX14_divide yX14_divide 0 0 [(2, ((2495 : Nat) : Int)), (0, a), (1, m)] h (mRL fun v h' => Ch 70 2496 2497 [a] h h' ∧ Num (ga h' 2496) 70 a ∧ m * vl (ga h' 2496) 70 a + v = vl (ga h 2496) 70 a ∧ (0 ≤ v ∧ v < m) ∧ sz (ga h' 2496) 70 a ≤ sz (ga h 2496) 70 a ∧ ga h' 2497 a = (if sz (ga h' 2496) 70 a = 0 then 0 else ga h 2497 a)) := by
  refine MCal.ofMW (Or.inl rfl) ⟨cp_X14, rfl⟩ (Nat.le_of_ble_eq_true rfl) ?_
  generalize eQ : (mRL fun v h' => Ch 70 2496 2497 [a] h h' ∧ Num (ga h' 2496) 70 a ∧ m * vl (ga h' 2496) 70 a + v = vl (ga h 2496) 70 a ∧ (0 ≤ v ∧ v < m) ∧ sz (ga h' 2496) 70 a ≤ sz (ga h 2496) 70 a ∧ ga h' 2497 a = (if sz (ga h' 2496) 70 a = 0 then 0 else ga h 2497 a) : MO → MH → Prop) = Q
  change MW KX14_divide Q 0 0 (pcA pgX14_divide 0) [(0, (2, ((2495 : Nat) : Int))), (1, (0, a)), (2, (1, m))] [] h
  refine hd_locI (i := 1) rfl (fun ra => ?_)
  refine hd_locL (i := 2) rfl (fun rm => ?_)
  have A1 := A.1
  have A2 := A.2.1
  have az : sz (ga h 2496) 70 a = ga h 2496 (70 * a) := rfl
  refine hd_lpush (z := 0) pkX14_divide rfl ?_
  refine hd_lstore pkX14_divide rfl rfl ?_
  change MW _ _ _ _ _ [(4, (1, 0)), (0, (2, ((2495 : Nat) : Int))), (1, (0, a)), (2, (1, m))] _ _
  refine hd_aload pkX14_divide rfl rfl (Int.natCast_nonneg _) ?_
  refine hd_getR (n := 2496) pkX14_divide rfl (g.cell 0 rfl).1 (g.cell 0 rfl).2.1 (g.ref 0 rfl) ?_
  refine hd_ipush (z := 70) pkX14_divide rfl ?_
  refine hd_iload pkX14_divide rfl rfl ?_
  refine hd_imul pkX14_divide rfl (by omega) ?_
  refine hd_iald (n := 48300) pkX14_divide rfl (g.cell 1 rfl) (by omega) (by omega) (fun v1 ev1 rv1 => ?_)
  refine hd_istore pkX14_divide rfl rfl ?_
  change MW _ _ _ _ _ [(6, (0, v1)), (4, (1, 0)), (0, (2, ((2495 : Nat) : Int))), (1, (0, a)), (2, (1, m))] _ _
  have lp9 : ∀ (N9 : Nat) (r k : Int) (h9 : MH), Str t14 r14 h9 → (Only [2496, 2497] h h9) → (0 ≤ k) → (k ≤ v1) → (0 ≤ r ∧ r < m) → (∀ i : Int, 0 ≤ i → ¬ (70 * a + k + 1 ≤ i ∧ i ≤ 70 * a + v1) → ga h9 2496 i = ga h 2496 i) → (∀ j : Int, k < j → j ≤ v1 → 0 ≤ lm (ga h9 2496) 70 a j ∧ lm (ga h9 2496) 70 a j < 16777216) → (m * (bl (lm (ga h9 2496) 70 a) v1.toNat - bl (lm (ga h9 2496) 70 a) k.toNat) + r * PW k.toNat = bl (lm (ga h 2496) 70 a) v1.toNat - bl (lm (ga h 2496) 70 a) k.toNat) → (∀ j : Int, ga h9 2497 j = ga h 2497 j) → k < (N9 : Int) → MW KX14_divide Q 0 0 (pcA pgX14_divide 9) [(0, (2, ((2495 : Nat) : Int))), (1, (0, a)), (2, (1, m)), (4, (1, r)), (6, (0, k))] [] h9 := by
    intro N9
    induction N9 with
    | zero => intro r k h9 g9 io k0 k1 r0 i4 i6 i7 i9 hm9; exfalso; omega
    | succ N9 ih9 =>
      intro r k h9 g9 io k0 k1 r0 i4 i6 i7 i9 hm9
      refine hd_iload pkX14_divide rfl rfl ?_
      refine hd_if_le pkX14_divide rfl (fun c2 => ?_) (fun c2 => ?_)
      · skip
        refine hd_aload pkX14_divide rfl rfl (Int.natCast_nonneg _) ?_
        refine hd_iload pkX14_divide rfl rfl ?_
        refine hd_aload pkX14_divide rfl rfl (Int.natCast_nonneg _) ?_
        refine hd_getR (n := 2496) pkX14_divide rfl (g9.cell 0 rfl).1 (g9.cell 0 rfl).2.1 (g9.ref 0 rfl) ?_
        refine hd_ipush (z := 70) pkX14_divide rfl ?_
        refine hd_iload pkX14_divide rfl rfl ?_
        refine hd_imul pkX14_divide rfl (by omega) ?_
        refine hd_iald (n := 48300) pkX14_divide rfl (g9.cell 1 rfl) (by omega) (by omega) (fun v3 ev3 rv3 => ?_)
        have e7 : v3 = v1 := by rw [ev3, i4 _ (by omega) (by omega)]; omega
        have hd9 : Dg (ga h9 2496) 70 a v3 := by
          have e : v3 = v1 := by rw [ev3, i4 _ (by omega) (by omega)]; omega
          rw [e]
          exact fun j p q => i6 j (by omega) q
        refine hd_callV pkX14_divide rfl (q := (KX14_trim, yX14_trim, 14, 2, 0)) rfl rfl rfl (As := [(0, a), (0, v3)]) (rest := []) (c := 2495) rfl rfl (Nat.le_of_ble_eq_true rfl) (g9.cell 0 rfl).1 (g9.cell 0 rfl).2.1 (h_X14_trim ha ha2 (by omega) (by omega) hd9 g9) (hd_bV (fun hc4 pt => ?_))
        have ghc4 : Str t14 r14 hc4 := g9.only pt.1.1 (by decide)
        refine hd_lload pkX14_divide rfl rfl ?_
        refine hd_lret pkX14_divide rfl ?_
        subst eQ
        have k9 : k = 0 := by omega
        rw [k9] at i7
        have e1 : m * bl (lm (ga h9 2496) 70 a) v1.toNat + r = vl (ga h 2496) 70 a := by
          have sa2 : (sz (ga h 2496) 70 a).toNat = v1.toNat := by omega
          unfold vl
          rw [sa2]
          have p0 : PW (0 : Int).toNat = 1 := rfl
          have b0 : bl (lm (ga h9 2496) 70 a) (0 : Int).toNat = 0 := rfl
          have b1 : bl (lm (ga h 2496) 70 a) (0 : Int).toNat = 0 := rfl
          rw [p0, b0, b1, Int.sub_zero, Int.sub_zero, Int.mul_one] at i7
          exact i7
        have e5 := i4 (70 * a) (by omega) (by omega)
        refine ⟨rfl, rfl, ⟨Only.trans io pt.1.1, fun i p q => ?_, fun j p q => ?_⟩, pt.2.1, ?_, r0, ?_, ?_⟩
        · rw [pt.1.2.1 i p q]
          have := q a List.mem_cons_self
          exact i4 i p (by omega)
        · rw [pt.1.2.2 j p q]
          exact i9 j
        · rw [pt.2.2.1]
          have e6 : v3 = v1 := by omega
          rw [e6]
          exact e1
        · have := pt.2.2.2.1
          omega
        · rw [pt.2.2.2.2, i9 a]
      · skip
        refine hd_lload pkX14_divide rfl rfl ?_
        refine hd_ipush (z := 24) pkX14_divide rfl ?_
        refine hd_lshl (v := (r * 16777216)) pkX14_divide rfl (by exact h_lshl24 (by omega) (by omega)) ?_
        refine hd_aload pkX14_divide rfl rfl (Int.natCast_nonneg _) ?_
        refine hd_getR (n := 2496) pkX14_divide rfl (g9.cell 0 rfl).1 (g9.cell 0 rfl).2.1 (g9.ref 0 rfl) ?_
        refine hd_ipush (z := 70) pkX14_divide rfl ?_
        refine hd_iload pkX14_divide rfl rfl ?_
        refine hd_imul pkX14_divide rfl (by omega) ?_
        refine hd_iload pkX14_divide rfl rfl ?_
        refine hd_iadd pkX14_divide rfl (by omega) ?_
        refine hd_iald (n := 48300) pkX14_divide rfl (g9.cell 1 rfl) (by omega) (by omega) (fun v5 ev5 rv5 => ?_)
        have ex : lm (ga h 2496) 70 a k = v5 := by
          show ga h 2496 (70 * a + k) = v5
          rw [ev5]
          exact (i4 _ (by omega) (by omega)).symm
        have rx : 0 ≤ v5 ∧ v5 < 16777216 := by rw [← ex]; exact A.2.2.1 k (by omega) (by omega)
        have dq := div_q (v := r * 16777216 + v5) (m := m) (by omega) hm (by omega)
        refine hd_i2l pkX14_divide rfl ?_
        refine hd_ladd pkX14_divide rfl (by omega) ?_
        refine hd_lstore pkX14_divide rfl rfl ?_
        change MW _ _ _ _ _ [(7, (1, ((r * 16777216) + v5))), (0, (2, ((2495 : Nat) : Int))), (1, (0, a)), (2, (1, m)), (4, (1, r)), (6, (0, k))] _ _
        refine hd_aload pkX14_divide rfl rfl (Int.natCast_nonneg _) ?_
        refine hd_getR (n := 2496) pkX14_divide rfl (g9.cell 0 rfl).1 (g9.cell 0 rfl).2.1 (g9.ref 0 rfl) ?_
        refine hd_ipush (z := 70) pkX14_divide rfl ?_
        refine hd_iload pkX14_divide rfl rfl ?_
        refine hd_imul pkX14_divide rfl (by omega) ?_
        refine hd_iload pkX14_divide rfl rfl ?_
        refine hd_iadd pkX14_divide rfl (by omega) ?_
        refine hd_lload pkX14_divide rfl rfl ?_
        refine hd_lload pkX14_divide rfl rfl ?_
        refine hd_ldiv pkX14_divide rfl (by omega) (by omega) ?_
        refine hd_l2i pkX14_divide rfl (by omega) ?_
        refine hd_iast (n := 48300) pkX14_divide rfl (g9.cell 1 rfl) (by decide) (by omega) (by omega) (fun hh6 ehh6 => ?_)
        have ghh6 : Str t14 r14 hh6 := by rw [ehh6]; exact g9.setA rfl
        refine hd_lload pkX14_divide rfl rfl ?_
        refine hd_lload pkX14_divide rfl rfl ?_
        refine hd_lrem pkX14_divide rfl (by omega) (by omega) ?_
        refine hd_lstore pkX14_divide rfl rfl ?_
        change MW _ _ _ _ _ [(4, (1, (Int.tmod ((r * 16777216) + v5) m))), (7, (1, ((r * 16777216) + v5))), (0, (2, ((2495 : Nat) : Int))), (1, (0, a)), (2, (1, m)), (6, (0, k))] _ _
        refine hd_iinc (z := (-1)) pkX14_divide rfl rfl (by omega) rfl ?_
        change MW _ _ _ _ _ [(6, (0, (k + (-1)))), (4, (1, (Int.tmod ((r * 16777216) + v5) m))), (7, (1, ((r * 16777216) + v5))), (0, (2, ((2495 : Nat) : Int))), (1, (0, a)), (2, (1, m))] _ _
        refine hd_goto pkX14_divide rfl ?_
        have ez : ∀ i : Int, 0 ≤ i → ga hh6 2496 i = if i = 70 * a + k then (Int.tdiv ((r * 16777216) + v5) m) else ga h9 2496 i := fun i hi => by
          subst ehh6
          rw [ga_sa _ _ _ (by omega) hi]
        have el : ∀ j : Int, 1 ≤ j → j ≠ k → lm (ga hh6 2496) 70 a j = lm (ga h9 2496) 70 a j := fun j p q => by
          unfold lm
          rw [ez _ (by omega), if_neg (by omega)]
        have ek : lm (ga hh6 2496) 70 a k = (Int.tdiv ((r * 16777216) + v5) m) := by
          unfold lm
          rw [ez _ (by omega), if_pos rfl]
        have st := div_step (g := lm (ga h9 2496) 70 a) (g' := lm (ga hh6 2496) 70 a) (f := lm (ga h 2496) 70 a) (by omega) k1 el ek ex dq.2.2.2.2 i7
        refine m_sub [(0, (2, ((2495 : Nat) : Int))), (1, (0, a)), (2, (1, m)), (4, (1, (Int.tmod ((r * 16777216) + v5) m))), (6, (0, (k + (-1))))] (List.forall_mem_cons.mpr ⟨rfl, List.forall_mem_cons.mpr ⟨rfl, List.forall_mem_cons.mpr ⟨rfl, List.forall_mem_cons.mpr ⟨rfl, List.forall_mem_cons.mpr ⟨rfl, fun _ h => absurd h List.not_mem_nil⟩⟩⟩⟩⟩) ?_
        refine ih9  ((Int.tmod ((r * 16777216) + v5) m)) ((k + (-1))) hh6 ghh6 ?_ ?_ ?_ ?_ ?_ ?_ ?_ ?_ ?_
        · subst ehh6
          exact io.set (by decide)
        · omega
        · omega
        · exact ⟨dq.2.2.1, dq.2.2.2.1⟩
        · intro i p q
          rw [ez i p, if_neg (by omega)]
          exact i4 i p (by omega)
        · intro j p q
          by_cases w : j = k
          · rw [w, ek]
            exact ⟨dq.1, dq.2.1⟩
          · rw [el j (by omega) w]
            exact i6 j (by omega) q
        · have e : k + (-1) = k - 1 := by omega
          rw [e]
          exact st
        · subst ehh6
          intro j
          rw [ga_ne _ _ _ _ (by decide)]
          exact i9 j
        · omega
  refine m_sub [(0, (2, ((2495 : Nat) : Int))), (1, (0, a)), (2, (1, m)), (4, (1, 0)), (6, (0, v1))] (List.forall_mem_cons.mpr ⟨rfl, List.forall_mem_cons.mpr ⟨rfl, List.forall_mem_cons.mpr ⟨rfl, List.forall_mem_cons.mpr ⟨rfl, List.forall_mem_cons.mpr ⟨rfl, fun _ h => absurd h List.not_mem_nil⟩⟩⟩⟩⟩) ?_
  refine lp9 (((v1)) + 1).toNat (0) (v1) h g ?_ ?_ ?_ ?_ ?_ ?_ ?_ ?_ ?_
  · exact Only.refl _ _
  · omega
  · omega
  · omega
  · exact fun _ _ _ => rfl
  · intro j p q
    omega
  · rw [Int.sub_self, Int.mul_zero, Int.zero_mul]
    rfl
  · exact fun _ => rfl
  · omega
set_option maxRecDepth 20000 in
set_option maxHeartbeats 8000000 in
theorem h_X14_bits {h : MH} {a : Int} (ha : 0 ≤ a) (ha2 : a < 690) (A : Num (ga h 2496) 70 a) (g : Str t14 r14 h) : MCal KX14_bits yX14_bits 0 0 [(2, ((2495 : Nat) : Int)), (0, a)] h (mRI fun v h' => (vl (ga h 2496) 70 a < PD v.toNat ∧ 0 ≤ v ∧ v ≤ 24 * sz (ga h 2496) 70 a ∧ (1 ≤ vl (ga h 2496) 70 a → 1 ≤ v ∧ PD (v - 1).toNat ≤ vl (ga h 2496) 70 a)) ∧ h' = h) := by
  refine MCal.ofMW (Or.inl rfl) ⟨cp_X14, rfl⟩ (Nat.le_of_ble_eq_true rfl) ?_
  generalize eQ : (mRI fun v h' => (vl (ga h 2496) 70 a < PD v.toNat ∧ 0 ≤ v ∧ v ≤ 24 * sz (ga h 2496) 70 a ∧ (1 ≤ vl (ga h 2496) 70 a → 1 ≤ v ∧ PD (v - 1).toNat ≤ vl (ga h 2496) 70 a)) ∧ h' = h : MO → MH → Prop) = Q
  change MW KX14_bits Q 0 0 (pcA pgX14_bits 0) [(0, (2, ((2495 : Nat) : Int))), (1, (0, a))] [] h
  refine hd_locI (i := 1) rfl (fun ra => ?_)
  have A1 := A.1
  have A2 := A.2.1
  have az : sz (ga h 2496) 70 a = ga h 2496 (70 * a) := rfl
  refine hd_aload pkX14_bits rfl rfl (Int.natCast_nonneg _) ?_
  refine hd_getR (n := 2496) pkX14_bits rfl (g.cell 0 rfl).1 (g.cell 0 rfl).2.1 (g.ref 0 rfl) ?_
  refine hd_ipush (z := 70) pkX14_bits rfl ?_
  refine hd_iload pkX14_bits rfl rfl ?_
  refine hd_imul pkX14_bits rfl (by omega) ?_
  refine hd_iald (n := 48300) pkX14_bits rfl (g.cell 1 rfl) (by omega) (by omega) (fun v1 ev1 rv1 => ?_)
  refine hd_istore pkX14_bits rfl rfl ?_
  change MW _ _ _ _ _ [(2, (0, v1)), (0, (2, ((2495 : Nat) : Int))), (1, (0, a))] _ _
  refine hd_iload pkX14_bits rfl rfl ?_
  have cut16 : ∀ (nb : Int), ((v1 = 0 → nb = 0) ∧ (v1 ≠ 0 → nb = 24 * (v1 - 1))) → MW KX14_bits Q 0 0 (pcA pgX14_bits 16) [(0, (2, ((2495 : Nat) : Int))), (1, (0, a)), (2, (0, v1))] [(0, nb)] h := by
    intro nb hb
    refine hd_istore pkX14_bits rfl rfl ?_
    change MW _ _ _ _ _ [(3, (0, nb)), (0, (2, ((2495 : Nat) : Int))), (1, (0, a)), (2, (0, v1))] _ _
    refine hd_aload pkX14_bits rfl rfl (Int.natCast_nonneg _) ?_
    refine hd_iload pkX14_bits rfl rfl ?_
    refine hd_iload pkX14_bits rfl rfl ?_
    refine hd_callV pkX14_bits rfl (q := (KX14_limb, yX14_limb, 14, 2, 0)) rfl rfl rfl (As := [(0, a), (0, v1)]) (rest := []) (c := 2495) rfl rfl (Nat.le_of_ble_eq_true rfl) (g.cell 0 rfl).1 (g.cell 0 rfl).2.1 (h_X14_limb ha ha2 A1 A2 (by omega) g) (hd_bI (fun x hc2 px => ?_))
    obtain ⟨px, ehc2⟩ := px
    replace ehc2 := ehc2.symm
    subst ehc2
    have rx : 0 ≤ x ∧ x < 16777216 := by
      by_cases q : 1 ≤ v1
      · rw [px]
        exact lb_rng A q
      · have e : v1 = 0 := by omega
        have e2 : x = 0 := by
          rw [px, e]
          unfold lb lm
          rw [if_pos A1, Int.add_zero]
          omega
        omega
    refine hd_istore pkX14_bits rfl rfl ?_
    change MW _ _ _ _ _ [(4, (0, x)), (3, (0, nb)), (0, (2, ((2495 : Nat) : Int))), (1, (0, a)), (2, (0, v1))] _ _
    have lp22 : ∀ (N22 : Nat) (n t : Int), (nb ≤ n ∧ n ≤ nb + 24) → (0 ≤ t ∧ t ≤ x) → (PD (n - nb).toNat * t ≤ x ∧ x < PD (n - nb).toNat * (t + 1)) → (nb < n → PD (n - nb - 1).toNat ≤ x) → t < (N22 : Int) → MW KX14_bits Q 0 0 (pcA pgX14_bits 22) [(0, (2, ((2495 : Nat) : Int))), (1, (0, a)), (2, (0, v1)), (3, (0, n)), (4, (0, t))] [] h := by
      intro N22
      induction N22 with
      | zero => intro n t n0 t0 i1 i2 hm22; exfalso; omega
      | succ N22 ih22 =>
        intro n t n0 t0 i1 i2 hm22
        refine hd_iload pkX14_bits rfl rfl ?_
        refine hd_if_le pkX14_bits rfl (fun c3 => ?_) (fun c3 => ?_)
        · skip
          refine hd_iload pkX14_bits rfl rfl ?_
          refine hd_iret pkX14_bits rfl ?_
          subst eQ
          have t9 : t = 0 := by omega
          rw [t9, Int.mul_zero, Int.zero_add, Int.mul_one] at i1
          by_cases q : v1 = 0
          · have z0 := (vl_zero A).mpr (by omega)
            have := hb.1 q
            have n9 : n = 0 := by
              by_cases w : nb < n
              · have := i2 w
                have := PD_pos (n - nb - 1).toNat
                have e2 : x = 0 := by
                  rw [px, q]
                  unfold lb lm
                  rw [if_pos A1, Int.add_zero]
                  omega
                omega
              · omega
            refine ⟨rfl, rfl, ⟨?_, ?_, ?_, fun z => ?_⟩, rfl⟩
            · rw [z0]
              exact PD_pos _
            · show 0 ≤ n
              omega
            · show n ≤ _
              omega
            · omega
          · have hb := hb.2 q
            have az2 : sz (ga h 2496) 70 a = v1 := by omega
            have B := bits_end (c := n - nb) A (by omega) (by omega) (by rw [az2, ← px]; exact i1.2) (fun z => by rw [az2, ← px]; exact i2 (by omega))
            rw [az2, ← hb] at B
            have e1 : nb + (n - nb) = n := by omega
            rw [e1] at B
            refine ⟨rfl, rfl, ⟨B.1, ?_, ?_, fun z => ⟨?_, B.2.2⟩⟩, rfl⟩
            · show 0 ≤ n
              omega
            · show n ≤ _
              omega
            · show 1 ≤ n
              omega
        · skip
          refine hd_iload pkX14_bits rfl rfl ?_
          refine hd_if_le pkX14_bits rfl (fun c4 => ?_) (fun c4 => ?_)
          · exfalso
            have e2 : x = 0 := by
              have : v1 = 0 := by omega
              rw [px, this]
              unfold lb lm
              rw [if_pos A1, Int.add_zero]
              omega
            omega
          · skip
            refine hd_iinc (z := 1) pkX14_bits rfl rfl (by omega) rfl ?_
            change MW _ _ _ _ _ [(3, (0, (n + 1))), (0, (2, ((2495 : Nat) : Int))), (1, (0, a)), (2, (0, v1)), (4, (0, t))] _ _
            refine hd_iload pkX14_bits rfl rfl ?_
            refine hd_ipush (z := 1) pkX14_bits rfl ?_
            refine hd_ishr (v := (t / 2)) pkX14_bits rfl (by exact h_shr1 (by omega)) ?_
            refine hd_istore pkX14_bits rfl rfl ?_
            change MW _ _ _ _ _ [(4, (0, (t / 2))), (3, (0, (n + 1))), (0, (2, ((2495 : Nat) : Int))), (1, (0, a)), (2, (0, v1))] _ _
            refine hd_goto pkX14_bits rfl ?_
            have bs := bits_step (c := n - nb) (x := x) (t := t) (by omega) (by omega) rx.2 i1.1 i1.2
            refine m_sub [(0, (2, ((2495 : Nat) : Int))), (1, (0, a)), (2, (0, v1)), (3, (0, (n + 1))), (4, (0, (t / 2)))] (List.forall_mem_cons.mpr ⟨rfl, List.forall_mem_cons.mpr ⟨rfl, List.forall_mem_cons.mpr ⟨rfl, List.forall_mem_cons.mpr ⟨rfl, List.forall_mem_cons.mpr ⟨rfl, fun _ h => absurd h List.not_mem_nil⟩⟩⟩⟩⟩) ?_
            refine ih22  ((n + 1)) ((t / 2)) ?_ ?_ ?_ ?_ ?_
            · have := bs.1
              omega
            · omega
            · have e : n + 1 - nb = n - nb + 1 := by omega
              rw [e]
              exact ⟨bs.2.2.1, bs.2.2.2⟩
            · intro q
              have e : n + 1 - nb - 1 = n - nb := by omega
              rw [e]
              exact bs.2.1
            · omega
    refine m_sub [(0, (2, ((2495 : Nat) : Int))), (1, (0, a)), (2, (0, v1)), (3, (0, nb)), (4, (0, x))] (List.forall_mem_cons.mpr ⟨rfl, List.forall_mem_cons.mpr ⟨rfl, List.forall_mem_cons.mpr ⟨rfl, List.forall_mem_cons.mpr ⟨rfl, List.forall_mem_cons.mpr ⟨rfl, fun _ h => absurd h List.not_mem_nil⟩⟩⟩⟩⟩) ?_
    refine lp22 (((x)) + 1).toNat (nb) (x) ?_ ?_ ?_ ?_ ?_
    · omega
    · omega
    · rw [Int.sub_self]
      show 1 * x ≤ x ∧ x < 1 * (x + 1)
      omega
    · intro q
      omega
    · omega
  refine hd_if_ne pkX14_bits rfl (fun c5 => ?_) (fun c5 => ?_)
  · skip
    refine hd_ipush (z := 24) pkX14_bits rfl ?_
    refine hd_iload pkX14_bits rfl rfl ?_
    refine hd_ipush (z := 1) pkX14_bits rfl ?_
    refine hd_isub pkX14_bits rfl (by omega) ?_
    refine hd_imul pkX14_bits rfl (by omega) ?_
    refine m_sub [(0, (2, ((2495 : Nat) : Int))), (1, (0, a)), (2, (0, v1))] (List.forall_mem_cons.mpr ⟨rfl, List.forall_mem_cons.mpr ⟨rfl, List.forall_mem_cons.mpr ⟨rfl, fun _ h => absurd h List.not_mem_nil⟩⟩⟩) ?_
    refine cut16 ((24 * (v1 - 1))) ?_
    · omega
  · skip
    refine hd_ipush (z := 0) pkX14_bits rfl ?_
    refine hd_goto pkX14_bits rfl ?_
    refine m_sub [(0, (2, ((2495 : Nat) : Int))), (1, (0, a)), (2, (0, v1))] (List.forall_mem_cons.mpr ⟨rfl, List.forall_mem_cons.mpr ⟨rfl, List.forall_mem_cons.mpr ⟨rfl, fun _ h => absurd h List.not_mem_nil⟩⟩⟩) ?_
    refine cut16 (0) ?_
    · omega
set_option maxRecDepth 20000 in
set_option maxHeartbeats 8000000 in
theorem h_X14_small {h : MH} {n v : Int} (hn : 0 ≤ n) (hn2 : n < 690) (hv : -9223372036854775807 ≤ v) (g : Str t14 r14 h) : MCal KX14_small yX14_small 0 0 [(2, ((2495 : Nat) : Int)), (0, n), (1, v)] h (mRV fun h' => Ch 70 2496 2497 [n] h h' ∧ Num (ga h' 2496) 70 n ∧ ((0 ≤ v → vl (ga h' 2496) 70 n = v) ∧ (v < 0 → vl (ga h' 2496) 70 n = -v)) ∧ sz (ga h' 2496) 70 n ≤ 3 ∧ ga h' 2497 n = (if 0 < v then 1 else if v < 0 then -1 else 0)) := by
  refine MCal.ofMW (Or.inl rfl) ⟨cp_X14, rfl⟩ (Nat.le_of_ble_eq_true rfl) ?_
  generalize eQ : (mRV fun h' => Ch 70 2496 2497 [n] h h' ∧ Num (ga h' 2496) 70 n ∧ ((0 ≤ v → vl (ga h' 2496) 70 n = v) ∧ (v < 0 → vl (ga h' 2496) 70 n = -v)) ∧ sz (ga h' 2496) 70 n ≤ 3 ∧ ga h' 2497 n = (if 0 < v then 1 else if v < 0 then -1 else 0) : MO → MH → Prop) = Q
  change MW KX14_small Q 0 0 (pcA pgX14_small 0) [(0, (2, ((2495 : Nat) : Int))), (1, (0, n)), (2, (1, v))] [] h
  refine hd_locI (i := 1) rfl (fun rn => ?_)
  refine hd_locL (i := 2) rfl (fun rv => ?_)
  refine hd_aload pkX14_small rfl rfl (Int.natCast_nonneg _) ?_
  refine hd_getR (n := 2497) pkX14_small rfl (g.cell 0 rfl).1 (g.cell 0 rfl).2.1 (g.ref 1 rfl) ?_
  refine hd_iload pkX14_small rfl rfl ?_
  refine hd_lload pkX14_small rfl rfl ?_
  have cut17 : ∀ (_ : True) (h1 : MH), Str t14 r14 h1 → (Only [2496, 2497] h h1) → (∀ i : Int, ga h1 2496 i = ga h 2496 i) → (ga h1 2497 n = (if 0 < v then 1 else if v < 0 then -1 else 0)) → (∀ j : Int, 0 ≤ j → j ≠ n → ga h1 2497 j = ga h 2497 j) → MW KX14_small Q 0 0 (pcA pgX14_small 17) [(0, (2, ((2495 : Nat) : Int))), (1, (0, n)), (2, (1, v))] [] h1 := by
    intro _ h1 gc17 io iz isn iso
    refine hd_lload pkX14_small rfl rfl ?_
    have cut25 : ∀ (y0 : Int), (0 ≤ y0 ∧ (0 ≤ v → y0 = v) ∧ (v < 0 → y0 = -v)) → MW KX14_small Q 0 0 (pcA pgX14_small 25) [(0, (2, ((2495 : Nat) : Int))), (1, (0, n)), (2, (1, v))] [(1, y0)] h1 := by
      intro y0 hy
      refine hd_lstore pkX14_small rfl rfl ?_
      change MW _ _ _ _ _ [(4, (1, y0)), (0, (2, ((2495 : Nat) : Int))), (1, (0, n)), (2, (1, v))] _ _
      refine hd_ipush (z := 70) pkX14_small rfl ?_
      refine hd_iload pkX14_small rfl rfl ?_
      refine hd_imul pkX14_small rfl (by omega) ?_
      refine hd_istore pkX14_small rfl rfl ?_
      change MW _ _ _ _ _ [(6, (0, (70 * n))), (4, (1, y0)), (0, (2, ((2495 : Nat) : Int))), (1, (0, n)), (2, (1, v))] _ _
      refine hd_aload pkX14_small rfl rfl (Int.natCast_nonneg _) ?_
      refine hd_getR (n := 2496) pkX14_small rfl (gc17.cell 0 rfl).1 (gc17.cell 0 rfl).2.1 (gc17.ref 0 rfl) ?_
      refine hd_iload pkX14_small rfl rfl ?_
      refine hd_ipush (z := 0) pkX14_small rfl ?_
      refine hd_iast (n := 48300) pkX14_small rfl (gc17.cell 1 rfl) (by decide) (by omega) (by omega) (fun hh1 ehh1 => ?_)
      have ghh1 : Str t14 r14 hh1 := by rw [ehh1]; exact gc17.setA rfl
      have lp35 : ∀ (N35 : Nat) (y : Int) (h9 : MH), Str t14 r14 h9 → (Only [2496, 2497] h h9) → (0 ≤ ga h9 2496 (70 * n) ∧ ga h9 2496 (70 * n) ≤ 3) → (0 ≤ y ∧ (ga h9 2496 (70 * n) = 0 → y ≤ 9223372036854775807) ∧ (ga h9 2496 (70 * n) = 1 → y < 549755813888) ∧ (ga h9 2496 (70 * n) = 2 → y < 32768) ∧ (ga h9 2496 (70 * n) = 3 → y = 0)) → (Dg (ga h9 2496) 70 n (ga h9 2496 (70 * n))) → (bl (lm (ga h9 2496) 70 n) (ga h9 2496 (70 * n)).toNat + y * PW (ga h9 2496 (70 * n)).toNat = y0) → (y = 0 → 1 ≤ ga h9 2496 (70 * n) → lm (ga h9 2496) 70 n (ga h9 2496 (70 * n)) ≠ 0) → (∀ i : Int, 0 ≤ i → ¬ (70 * n ≤ i ∧ i < 70 * n + 70) → ga h9 2496 i = ga h 2496 i) → (∀ j : Int, ga h9 2497 j = ga h1 2497 j) → y < (N35 : Int) → MW KX14_small Q 0 0 (pcA pgX14_small 35) [(0, (2, ((2495 : Nat) : Int))), (1, (0, n)), (2, (1, v)), (4, (1, y)), (6, (0, (70 * n)))] [] h9 := by
        intro N35
        induction N35 with
        | zero => intro y h9 g35 io2 s0 y0b i6 i7 it i4 i9 hm35; exfalso; omega
        | succ N35 ih35 =>
          intro y h9 g35 io2 s0 y0b i6 i7 it i4 i9 hm35
          refine hd_lload pkX14_small rfl rfl ?_
          refine hd_lpush (z := 0) pkX14_small rfl ?_
          refine hd_lc_le pkX14_small rfl (fun c2 => ?_) (fun c2 => ?_)
          · skip
            refine hd_vret pkX14_small rfl ?_
            subst eQ
            have y9 : y = 0 := by omega
            have e1 : vl (ga h9 2496) 70 n = y0 := by
              rw [y9, Int.zero_mul, Int.add_zero] at i7
              exact i7
            have hsz : sz (ga h9 2496) 70 n = ga h9 2496 (70 * n) := rfl
            refine ⟨rfl, ⟨io2, fun i p q => ?_, fun j p q => ?_⟩, ⟨by omega, by omega, i6, it y9⟩, ⟨fun q => ?_, fun q => ?_⟩, s0.2, ?_⟩
            · have := q n List.mem_cons_self
              exact i4 i p (by omega)
            · rw [i9 j]
              exact iso j p fun e => q (e ▸ List.mem_cons_self)
            · rw [e1]
              omega
            · rw [e1]
              omega
            · rw [i9 n]
              exact isn
          · skip
            refine hd_aload pkX14_small rfl rfl (Int.natCast_nonneg _) ?_
            refine hd_getR (n := 2496) pkX14_small rfl (g35.cell 0 rfl).1 (g35.cell 0 rfl).2.1 (g35.ref 0 rfl) ?_
            refine hd_iload pkX14_small rfl rfl ?_
            refine hd_dup2 pkX14_small rfl rfl rfl ?_
            refine hd_iald (n := 48300) pkX14_small rfl (g35.cell 1 rfl) (by omega) (by omega) (fun v3 ev3 rv3 => ?_)
            have e9s : v3 = v3 := rfl
            refine hd_ipush (z := 1) pkX14_small rfl ?_
            refine hd_iadd pkX14_small rfl (by omega) ?_
            refine hd_iast (n := 48300) pkX14_small rfl (g35.cell 1 rfl) (by decide) (by omega) (by omega) (fun hh4 ehh4 => ?_)
            have ghh4 : Str t14 r14 hh4 := by rw [ehh4]; exact g35.setA rfl
            refine hd_aload pkX14_small rfl rfl (Int.natCast_nonneg _) ?_
            refine hd_getR (n := 2496) pkX14_small rfl (ghh4.cell 0 rfl).1 (ghh4.cell 0 rfl).2.1 (ghh4.ref 0 rfl) ?_
            refine hd_iload pkX14_small rfl rfl ?_
            refine hd_aload pkX14_small rfl rfl (Int.natCast_nonneg _) ?_
            refine hd_getR (n := 2496) pkX14_small rfl (ghh4.cell 0 rfl).1 (ghh4.cell 0 rfl).2.1 (ghh4.ref 0 rfl) ?_
            refine hd_iload pkX14_small rfl rfl ?_
            refine hd_iald (n := 48300) pkX14_small rfl (ghh4.cell 1 rfl) (by omega) (by omega) (fun v5 ev5 rv5 => ?_)
            have e9t : v5 = ga h9 2496 (70 * n) + 1 := by
              rw [ev5, ehh4, ga_sa _ _ _ (by omega) (by omega), if_pos rfl]
              omega
            refine hd_iadd pkX14_small rfl (by omega) ?_
            refine hd_lload pkX14_small rfl rfl ?_
            refine hd_lpush (z := 16777215) pkX14_small rfl ?_
            refine hd_land (v := (y % 16777216)) pkX14_small rfl (by exact h_and64 _) ?_
            refine hd_l2i pkX14_small rfl (by omega) ?_
            refine hd_iast (n := 48300) pkX14_small rfl (ghh4.cell 1 rfl) (by decide) (by omega) (by omega) (fun hh6 ehh6 => ?_)
            have ghh6 : Str t14 r14 hh6 := by rw [ehh6]; exact ghh4.setA rfl
            refine hd_lload pkX14_small rfl rfl ?_
            refine hd_ipush (z := 24) pkX14_small rfl ?_
            refine hd_lshr (v := (y / 16777216)) pkX14_small rfl (by exact h_lshr24 (by omega)) ?_
            refine hd_lstore pkX14_small rfl rfl ?_
            change MW _ _ _ _ _ [(4, (1, (y / 16777216))), (0, (2, ((2495 : Nat) : Int))), (1, (0, n)), (2, (1, v)), (6, (0, (70 * n)))] _ _
            refine hd_goto pkX14_small rfl ?_
            have vS : v3 = ga h9 2496 (70 * n) := by assumption
            have vT : v5 = ga h9 2496 (70 * n) + 1 := by
              rw [ev5, ehh4, ga_sa _ _ _ (by omega) (by omega), if_pos rfl, vS]
            have ez : ∀ i : Int, 0 ≤ i → ga hh6 2496 i = if i = 70 * n + v5 then y % 16777216 else if i = 70 * n then v3 + 1 else ga h9 2496 i := fun i hi => by
              rw [ehh6, ga_sa _ _ _ (by omega) hi, ehh4, ga_sa _ _ _ (by omega) hi]
            have es : ga hh6 2496 (70 * n) = ga h9 2496 (70 * n) + 1 := by rw [ez _ (by omega), if_neg (by omega), if_pos rfl, vS]
            have st := small_step (Z := ga h9 2496) (Z' := ga hh6 2496) s0.1 i6 i7 (by rw [ez _ (by omega), if_pos (by omega)]) (fun j p q => by rw [ez _ (by omega), if_neg (by omega), if_neg (by omega)])
            refine m_sub [(0, (2, ((2495 : Nat) : Int))), (1, (0, n)), (2, (1, v)), (4, (1, (y / 16777216))), (6, (0, (70 * n)))] (List.forall_mem_cons.mpr ⟨rfl, List.forall_mem_cons.mpr ⟨rfl, List.forall_mem_cons.mpr ⟨rfl, List.forall_mem_cons.mpr ⟨rfl, List.forall_mem_cons.mpr ⟨rfl, fun _ h => absurd h List.not_mem_nil⟩⟩⟩⟩⟩) ?_
            refine ih35  ((y / 16777216)) hh6 ghh6 ?_ ?_ ?_ ?_ ?_ ?_ ?_ ?_ ?_
            · subst ehh6 ehh4
              exact (io2.set (by decide)).set (by decide)
            · omega
            · omega
            · rw [es]
              exact st.1
            · rw [es]
              exact st.2
            · intro p q
              rw [es]
              show ga hh6 2496 (70 * n + (ga h9 2496 (70 * n) + 1)) ≠ 0
              rw [ez _ (by omega), if_pos (by omega)]
              omega
            · intro i p q
              rw [ez i p, if_neg (by omega), if_neg (by omega)]
              exact i4 i p q
            · subst ehh6 ehh4
              intro j
              rw [ga_ne _ _ _ _ (by decide), ga_ne _ _ _ _ (by decide)]
              exact i9 j
            · omega
      have ez : ∀ i : Int, 0 ≤ i → ga hh1 2496 i = if i = 70 * n then 0 else ga h1 2496 i := fun i hi => by
        subst ehh1
        rw [ga_sa _ _ _ (by omega) hi]
      have e0 : ga hh1 2496 (70 * n) = 0 := by rw [ez _ (by omega), if_pos rfl]
      refine m_sub [(0, (2, ((2495 : Nat) : Int))), (1, (0, n)), (2, (1, v)), (4, (1, y0)), (6, (0, (70 * n)))] (List.forall_mem_cons.mpr ⟨rfl, List.forall_mem_cons.mpr ⟨rfl, List.forall_mem_cons.mpr ⟨rfl, List.forall_mem_cons.mpr ⟨rfl, List.forall_mem_cons.mpr ⟨rfl, fun _ h => absurd h List.not_mem_nil⟩⟩⟩⟩⟩) ?_
      refine lp35 (((y0)) + 1).toNat (y0) hh1 ghh1 ?_ ?_ ?_ ?_ ?_ ?_ ?_ ?_ ?_
      · subst ehh1
        exact io.set (by decide)
      · omega
      · omega
      · rw [e0]
        intro j p q
        omega
      · rw [e0]
        show 0 + y0 * 1 = y0
        omega
      · omega
      · intro i p q
        rw [ez i p, if_neg (by omega)]
        exact iz i
      · subst ehh1
        intro j
        rw [ga_ne _ _ _ _ (by decide)]
      · omega
    refine hd_lpush (z := 0) pkX14_small rfl ?_
    refine hd_lc_ge pkX14_small rfl (fun c7 => ?_) (fun c7 => ?_)
    · skip
      refine hd_lload pkX14_small rfl rfl ?_
      refine cut25 (v) ?_
      · omega
    · skip
      refine hd_lload pkX14_small rfl rfl ?_
      refine hd_lneg pkX14_small rfl (by omega) ?_
      refine hd_goto pkX14_small rfl ?_
      refine cut25 ((-v)) ?_
      · omega
  refine hd_lpush (z := 0) pkX14_small rfl ?_
  refine hd_lc_le pkX14_small rfl (fun c8 => ?_) (fun c8 => ?_)
  · skip
    refine hd_lload pkX14_small rfl rfl ?_
    refine hd_lpush (z := 0) pkX14_small rfl ?_
    refine hd_lc_ge pkX14_small rfl (fun c9 => ?_) (fun c9 => ?_)
    · skip
      refine hd_ipush (z := 0) pkX14_small rfl ?_
      refine hd_iast (n := 690) pkX14_small rfl (g.cell 2 rfl) (by decide) (by omega) (by omega) (fun hh10 ehh10 => ?_)
      have ghh10 : Str t14 r14 hh10 := by rw [ehh10]; exact g.setA rfl
      refine cut17 trivial hh10 ghh10 ?_ ?_ ?_ ?_
      · subst ehh10
        exact (Only.refl _ _).set (by decide)
      · intro i
        subst ehh10
        rw [ga_ne _ _ _ _ (by decide)]
      · subst ehh10
        rw [ga_sa _ _ _ hn hn, if_pos rfl]
        split
        · omega
        · split <;> omega
      · intro j p q
        subst ehh10
        rw [ga_sa _ _ _ hn p, if_neg q]
    · skip
      refine hd_ipush (z := (-1)) pkX14_small rfl ?_
      refine hd_goto pkX14_small rfl ?_
      refine hd_iast (n := 690) pkX14_small rfl (g.cell 2 rfl) (by decide) (by omega) (by omega) (fun hh11 ehh11 => ?_)
      have ghh11 : Str t14 r14 hh11 := by rw [ehh11]; exact g.setA rfl
      refine cut17 trivial hh11 ghh11 ?_ ?_ ?_ ?_
      · subst ehh11
        exact (Only.refl _ _).set (by decide)
      · intro i
        subst ehh11
        rw [ga_ne _ _ _ _ (by decide)]
      · subst ehh11
        rw [ga_sa _ _ _ hn hn, if_pos rfl]
        split
        · omega
        · split <;> omega
      · intro j p q
        subst ehh11
        rw [ga_sa _ _ _ hn p, if_neg q]
  · skip
    refine hd_ipush (z := 1) pkX14_small rfl ?_
    refine hd_goto pkX14_small rfl ?_
    refine hd_iast (n := 690) pkX14_small rfl (g.cell 2 rfl) (by decide) (by omega) (by omega) (fun hh12 ehh12 => ?_)
    have ghh12 : Str t14 r14 hh12 := by rw [ehh12]; exact g.setA rfl
    refine cut17 trivial hh12 ghh12 ?_ ?_ ?_ ?_
    · subst ehh12
      exact (Only.refl _ _).set (by decide)
    · intro i
      subst ehh12
      rw [ga_ne _ _ _ _ (by decide)]
    · subst ehh12
      rw [ga_sa _ _ _ hn hn, if_pos rfl]
      split
      · omega
      · split <;> omega
    · intro j p q
      subst ehh12
      rw [ga_sa _ _ _ hn p, if_neg q]
set_option maxRecDepth 20000 in
set_option maxHeartbeats 8000000 in
theorem h_X14_product {h : MH} {a b c : Int} (ha : 0 ≤ a) (ha2 : a < 690) (hb : 0 ≤ b) (hb2 : b < 690) (hc : 0 ≤ c) (hc2 : c < 690) (ac : a ≠ c) (bc : b ≠ c) (A : Num (ga h 2496) 70 a) (B : Num (ga h 2496) 70 b) (hs : sz (ga h 2496) 70 a + sz (ga h 2496) 70 b < 70) (sga : -1 ≤ ga h 2497 a ∧ ga h 2497 a ≤ 1) (sgb : -1 ≤ ga h 2497 b ∧ ga h 2497 b ≤ 1) (g : Str t14 r14 h) : MCal KX14_product yX14_product 0 0 [(2, ((2495 : Nat) : Int)), (0, a), (0, b), (0, c)] h (mRV fun h' => Ch 70 2496 2497 [c] h h' ∧ Num (ga h' 2496) 70 c ∧ vl (ga h' 2496) 70 c = vl (ga h 2496) 70 a * vl (ga h 2496) 70 b ∧ sz (ga h' 2496) 70 c ≤ sz (ga h 2496) 70 a + sz (ga h 2496) 70 b ∧ ga h' 2497 c = (if sz (ga h' 2496) 70 c = 0 then 0 else ga h 2497 a * ga h 2497 b)) := by
  refine MCal.ofMW (Or.inl rfl) ⟨cp_X14, rfl⟩ (Nat.le_of_ble_eq_true rfl) ?_
  generalize eQ : (mRV fun h' => Ch 70 2496 2497 [c] h h' ∧ Num (ga h' 2496) 70 c ∧ vl (ga h' 2496) 70 c = vl (ga h 2496) 70 a * vl (ga h 2496) 70 b ∧ sz (ga h' 2496) 70 c ≤ sz (ga h 2496) 70 a + sz (ga h 2496) 70 b ∧ ga h' 2497 c = (if sz (ga h' 2496) 70 c = 0 then 0 else ga h 2497 a * ga h 2497 b) : MO → MH → Prop) = Q
  change MW KX14_product Q 0 0 (pcA pgX14_product 0) [(0, (2, ((2495 : Nat) : Int))), (1, (0, a)), (2, (0, b)), (3, (0, c))] [] h
  refine hd_locI (i := 1) rfl (fun ra => ?_)
  refine hd_locI (i := 2) rfl (fun rb => ?_)
  refine hd_locI (i := 3) rfl (fun rc => ?_)
  have A1 := A.1
  have A2 := A.2.1
  have B1 := B.1
  have B2 := B.2.1
  have az : sz (ga h 2496) 70 a = ga h 2496 (70 * a) := rfl
  have bz : sz (ga h 2496) 70 b = ga h 2496 (70 * b) := rfl
  refine hd_aload pkX14_product rfl rfl (Int.natCast_nonneg _) ?_
  refine hd_getR (n := 2496) pkX14_product rfl (g.cell 0 rfl).1 (g.cell 0 rfl).2.1 (g.ref 0 rfl) ?_
  refine hd_ipush (z := 70) pkX14_product rfl ?_
  refine hd_iload pkX14_product rfl rfl ?_
  refine hd_imul pkX14_product rfl (by omega) ?_
  refine hd_iald (n := 48300) pkX14_product rfl (g.cell 1 rfl) (by omega) (by omega) (fun v1 ev1 rv1 => ?_)
  refine hd_aload pkX14_product rfl rfl (Int.natCast_nonneg _) ?_
  refine hd_getR (n := 2496) pkX14_product rfl (g.cell 0 rfl).1 (g.cell 0 rfl).2.1 (g.ref 0 rfl) ?_
  refine hd_ipush (z := 70) pkX14_product rfl ?_
  refine hd_iload pkX14_product rfl rfl ?_
  refine hd_imul pkX14_product rfl (by omega) ?_
  refine hd_iald (n := 48300) pkX14_product rfl (g.cell 1 rfl) (by omega) (by omega) (fun v2 ev2 rv2 => ?_)
  refine hd_iadd pkX14_product rfl (by omega) ?_
  refine hd_istore pkX14_product rfl rfl ?_
  change MW _ _ _ _ _ [(4, (0, (v1 + v2))), (0, (2, ((2495 : Nat) : Int))), (1, (0, a)), (2, (0, b)), (3, (0, c))] _ _
  refine hd_ipush (z := 1) pkX14_product rfl ?_
  refine hd_istore pkX14_product rfl rfl ?_
  change MW _ _ _ _ _ [(5, (0, 1)), (4, (0, (v1 + v2))), (0, (2, ((2495 : Nat) : Int))), (1, (0, a)), (2, (0, b)), (3, (0, c))] _ _
  have lp16 : ∀ (N16 : Nat) (k : Int) (h6 : MH), Str t14 r14 h6 → (Only [2496, 2497] h h6) → (1 ≤ k) → (k ≤ v1 + v2 + 1) → (∀ i : Int, 0 ≤ i → ¬ (70 * c + 1 ≤ i ∧ i ≤ 70 * c + (v1 + v2)) → ga h6 2496 i = ga h 2496 i) → (∀ j : Int, 1 ≤ j → j < k → lm (ga h6 2496) 70 c j = 0) → (∀ j : Int, ga h6 2497 j = ga h 2497 j) → v1 + v2 + 1 - k < (N16 : Int) → MW KX14_product Q 0 0 (pcA pgX14_product 16) [(0, (2, ((2495 : Nat) : Int))), (1, (0, a)), (2, (0, b)), (3, (0, c)), (4, (0, (v1 + v2))), (5, (0, k))] [] h6 := by
    intro N16
    induction N16 with
    | zero => intro k h6 g16 io k1 k2 i4 iz i9 hm16; exfalso; omega
    | succ N16 ih16 =>
      intro k h6 g16 io k1 k2 i4 iz i9 hm16
      refine hd_iload pkX14_product rfl rfl ?_
      refine hd_iload pkX14_product rfl rfl ?_
      refine hd_ic_gt pkX14_product rfl (fun c3 => ?_) (fun c3 => ?_)
      · skip
        refine hd_ipush (z := 1) pkX14_product rfl ?_
        refine hd_istore pkX14_product rfl rfl ?_
        change MW _ _ _ _ _ [(5, (0, 1)), (0, (2, ((2495 : Nat) : Int))), (1, (0, a)), (2, (0, b)), (3, (0, c)), (4, (0, (v1 + v2)))] _ _
        have lp32 : ∀ (N32 : Nat) (i : Int) (h7 : MH), Str t14 r14 h7 → (Only [2496, 2497] h h7) → (1 ≤ i) → (i ≤ v1 + 1) → (∀ i : Int, 0 ≤ i → ¬ (70 * c + 1 ≤ i ∧ i ≤ 70 * c + (v1 + v2)) → ga h7 2496 i = ga h 2496 i) → (Dg (ga h7 2496) 70 c (v1 + v2)) → (∀ j : Int, i - 1 + v2 < j → j ≤ v1 + v2 → lm (ga h7 2496) 70 c j = 0) → (bl (lm (ga h7 2496) 70 c) (v1 + v2).toNat = bl (lm (ga h 2496) 70 a) (i - 1).toNat * vl (ga h 2496) 70 b) → (∀ j : Int, ga h7 2497 j = ga h 2497 j) → v1 + 1 - i < (N32 : Int) → MW KX14_product Q 0 0 (pcA pgX14_product 32) [(0, (2, ((2495 : Nat) : Int))), (1, (0, a)), (2, (0, b)), (3, (0, c)), (4, (0, (v1 + v2))), (5, (0, i))] [] h7 := by
          intro N32
          induction N32 with
          | zero => intro i h7 g32 io j1 j2 i4 i6 iz2 i7 i9 hm32; exfalso; omega
          | succ N32 ih32 =>
            intro i h7 g32 io j1 j2 i4 i6 iz2 i7 i9 hm32
            have fa : ∀ j : Int, 0 ≤ j → j < 70 → ga h7 2496 (70 * a + j) = ga h 2496 (70 * a + j) := fun j p q => i4 _ (by omega) fun w => apart (W := 70) (by decide) ac (i := 70 * a + j) ⟨by omega, by omega⟩ ⟨by omega, by omega⟩
            have fb : ∀ j : Int, 0 ≤ j → j < 70 → ga h7 2496 (70 * b + j) = ga h 2496 (70 * b + j) := fun j p q => i4 _ (by omega) fun w => apart (W := 70) (by decide) bc (i := 70 * b + j) ⟨by omega, by omega⟩ ⟨by omega, by omega⟩
            have fa0 := fa 0 (Int.le_refl _) (by decide)
            have fb0 := fb 0 (Int.le_refl _) (by decide)
            rw [Int.add_zero] at fa0 fb0
            refine hd_iload pkX14_product rfl rfl ?_
            refine hd_aload pkX14_product rfl rfl (Int.natCast_nonneg _) ?_
            refine hd_getR (n := 2496) pkX14_product rfl (g32.cell 0 rfl).1 (g32.cell 0 rfl).2.1 (g32.ref 0 rfl) ?_
            refine hd_ipush (z := 70) pkX14_product rfl ?_
            refine hd_iload pkX14_product rfl rfl ?_
            refine hd_imul pkX14_product rfl (by omega) ?_
            refine hd_iald (n := 48300) pkX14_product rfl (g32.cell 1 rfl) (by omega) (by omega) (fun v4 ev4 rv4 => ?_)
            refine hd_ic_gt pkX14_product rfl (fun c5 => ?_) (fun c5 => ?_)
            · skip
              refine hd_aload pkX14_product rfl rfl (Int.natCast_nonneg _) ?_
              refine hd_getR (n := 2497) pkX14_product rfl (g32.cell 0 rfl).1 (g32.cell 0 rfl).2.1 (g32.ref 1 rfl) ?_
              refine hd_iload pkX14_product rfl rfl ?_
              refine hd_aload pkX14_product rfl rfl (Int.natCast_nonneg _) ?_
              refine hd_getR (n := 2497) pkX14_product rfl (g32.cell 0 rfl).1 (g32.cell 0 rfl).2.1 (g32.ref 1 rfl) ?_
              refine hd_iload pkX14_product rfl rfl ?_
              refine hd_iald (n := 690) pkX14_product rfl (g32.cell 2 rfl) (by omega) (by omega) (fun v6 ev6 rv6 => ?_)
              have sx : -1 ≤ v6 ∧ v6 ≤ 1 := by rw [ev6, i9]; exact sga
              refine hd_aload pkX14_product rfl rfl (Int.natCast_nonneg _) ?_
              refine hd_getR (n := 2497) pkX14_product rfl (g32.cell 0 rfl).1 (g32.cell 0 rfl).2.1 (g32.ref 1 rfl) ?_
              refine hd_iload pkX14_product rfl rfl ?_
              refine hd_iald (n := 690) pkX14_product rfl (g32.cell 2 rfl) (by omega) (by omega) (fun v7 ev7 rv7 => ?_)
              have sy : -1 ≤ v7 ∧ v7 ≤ 1 := by rw [ev7, i9]; exact sgb
              have sxy := sgn_mul sx sy
              refine hd_imul pkX14_product rfl (by omega) ?_
              refine hd_iast (n := 690) pkX14_product rfl (g32.cell 2 rfl) (by decide) (by omega) (by omega) (fun hh8 ehh8 => ?_)
              have ghh8 : Str t14 r14 hh8 := by rw [ehh8]; exact g32.setA rfl
              refine hd_aload pkX14_product rfl rfl (Int.natCast_nonneg _) ?_
              refine hd_iload pkX14_product rfl rfl ?_
              refine hd_iload pkX14_product rfl rfl ?_
              have ezz : ∀ i : Int, ga hh8 2496 i = ga h7 2496 i := fun i => by
                subst ehh8
                rw [ga_ne _ _ _ _ (by decide)]
              have ezs : ∀ j : Int, 0 ≤ j → ga hh8 2497 j = if j = c then (v6 * v7) else ga h 2497 j := fun j hj => by
                subst ehh8
                rw [ga_sa _ _ _ hc hj, i9 j]
              have ezl : lm (ga hh8 2496) 70 c = lm (ga h7 2496) 70 c := funext fun j => ezz _
              have hd9 : Dg (ga hh8 2496) 70 c (v1 + v2) := by
                intro j p q
                rw [ezl]
                exact i6 j p q
              have o9 : Only [2496, 2497] h hh8 := by
                subst ehh8
                exact io.set (by decide)
              refine hd_callV pkX14_product rfl (q := (KX14_trim, yX14_trim, 14, 2, 0)) rfl rfl rfl (As := [(0, c), (0, (v1 + v2))]) (rest := []) (c := 2495) rfl rfl (Nat.le_of_ble_eq_true rfl) (ghh8.cell 0 rfl).1 (ghh8.cell 0 rfl).2.1 (h_X14_trim hc hc2 (by omega) (by omega) hd9 ghh8) (hd_bV (fun hc9 pt => ?_))
              have ghc9 : Str t14 r14 hc9 := ghh8.only pt.1.1 (by decide)
              refine hd_vret pkX14_product rfl ?_
              subst eQ
              have e1 : (i - 1).toNat = v1.toNat := by omega
              have sa2 : (sz (ga h 2496) 70 a).toNat = v1.toNat := by omega
              rw [e1] at i7
              refine ⟨rfl, ⟨Only.trans o9 pt.1.1, fun i p q => ?_, fun j p q => ?_⟩, pt.2.1, ?_, by have := pt.2.2.2.1; omega, ?_⟩
              · rw [pt.1.2.1 i p q, ezz]
                have := q c List.mem_cons_self
                exact i4 i p (by omega)
              · rw [pt.1.2.2 j p q, ezs j p, if_neg]
                exact fun e => q (e ▸ List.mem_cons_self)
              · rw [pt.2.2.1, ezl, i7]
                congr 1
                unfold vl
                rw [sa2]
              · rw [pt.2.2.2.2, ezs c hc, if_pos rfl]
                have z1 := i9 a
                have z2 := i9 b
                split
                · rfl
                · congr 1 <;> omega
            · skip
              refine hd_lpush (z := 0) pkX14_product rfl ?_
              refine hd_lstore pkX14_product rfl rfl ?_
              change MW _ _ _ _ _ [(6, (1, 0)), (0, (2, ((2495 : Nat) : Int))), (1, (0, a)), (2, (0, b)), (3, (0, c)), (4, (0, (v1 + v2))), (5, (0, i))] _ _
              refine hd_ipush (z := 1) pkX14_product rfl ?_
              refine hd_istore pkX14_product rfl rfl ?_
              change MW _ _ _ _ _ [(8, (0, 1)), (6, (1, 0)), (0, (2, ((2495 : Nat) : Int))), (1, (0, a)), (2, (0, b)), (3, (0, c)), (4, (0, (v1 + v2))), (5, (0, i))] _ _
              have lp44 : ∀ (N44 : Nat) (c9 j : Int) (h8 : MH), Str t14 r14 h8 → (Only [2496, 2497] h h8) → (1 ≤ j) → (j ≤ v2 + 1) → (0 ≤ c9 ∧ c9 < 16777216) → (∀ i : Int, 0 ≤ i → ¬ (70 * c + 1 ≤ i ∧ i ≤ 70 * c + (v1 + v2)) → ga h8 2496 i = ga h 2496 i) → (Dg (ga h8 2496) 70 c (v1 + v2)) → (∀ q : Int, i - 1 + v2 < q → q ≤ v1 + v2 → lm (ga h8 2496) 70 c q = 0) → (bl (lm (ga h8 2496) 70 c) (v1 + v2).toNat + c9 * PW (i + j - 2).toNat = bl (lm (ga h 2496) 70 a) (i - 1).toNat * vl (ga h 2496) 70 b + lm (ga h 2496) 70 a i * bl (lm (ga h 2496) 70 b) (j - 1).toNat * PW (i - 1).toNat) → (∀ j : Int, ga h8 2497 j = ga h 2497 j) → v2 + 1 - j < (N44 : Int) → MW KX14_product Q 0 0 (pcA pgX14_product 44) [(0, (2, ((2495 : Nat) : Int))), (1, (0, a)), (2, (0, b)), (3, (0, c)), (4, (0, (v1 + v2))), (5, (0, i)), (6, (1, c9)), (8, (0, j))] [] h8 := by
                intro N44
                induction N44 with
                | zero => intro c9 j h8 g44 io m1 m2 c1 i4 i6 iz3 i8 i9 hm44; exfalso; omega
                | succ N44 ih44 =>
                  intro c9 j h8 g44 io m1 m2 c1 i4 i6 iz3 i8 i9 hm44
                  have fa : ∀ j : Int, 0 ≤ j → j < 70 → ga h8 2496 (70 * a + j) = ga h 2496 (70 * a + j) := fun j p q => i4 _ (by omega) fun w => apart (W := 70) (by decide) ac (i := 70 * a + j) ⟨by omega, by omega⟩ ⟨by omega, by omega⟩
                  have fb : ∀ j : Int, 0 ≤ j → j < 70 → ga h8 2496 (70 * b + j) = ga h 2496 (70 * b + j) := fun j p q => i4 _ (by omega) fun w => apart (W := 70) (by decide) bc (i := 70 * b + j) ⟨by omega, by omega⟩ ⟨by omega, by omega⟩
                  have fa0 := fa 0 (Int.le_refl _) (by decide)
                  have fb0 := fb 0 (Int.le_refl _) (by decide)
                  rw [Int.add_zero] at fa0 fb0
                  refine hd_iload pkX14_product rfl rfl ?_
                  refine hd_aload pkX14_product rfl rfl (Int.natCast_nonneg _) ?_
                  refine hd_getR (n := 2496) pkX14_product rfl (g44.cell 0 rfl).1 (g44.cell 0 rfl).2.1 (g44.ref 0 rfl) ?_
                  refine hd_ipush (z := 70) pkX14_product rfl ?_
                  refine hd_iload pkX14_product rfl rfl ?_
                  refine hd_imul pkX14_product rfl (by omega) ?_
                  refine hd_iald (n := 48300) pkX14_product rfl (g44.cell 1 rfl) (by omega) (by omega) (fun v10 ev10 rv10 => ?_)
                  refine hd_ic_gt pkX14_product rfl (fun c11 => ?_) (fun c11 => ?_)
                  · skip
                    refine hd_aload pkX14_product rfl rfl (Int.natCast_nonneg _) ?_
                    refine hd_getR (n := 2496) pkX14_product rfl (g44.cell 0 rfl).1 (g44.cell 0 rfl).2.1 (g44.ref 0 rfl) ?_
                    refine hd_ipush (z := 70) pkX14_product rfl ?_
                    refine hd_iload pkX14_product rfl rfl ?_
                    refine hd_imul pkX14_product rfl (by omega) ?_
                    refine hd_iload pkX14_product rfl rfl ?_
                    refine hd_iadd pkX14_product rfl (by omega) ?_
                    refine hd_aload pkX14_product rfl rfl (Int.natCast_nonneg _) ?_
                    refine hd_getR (n := 2496) pkX14_product rfl (g44.cell 0 rfl).1 (g44.cell 0 rfl).2.1 (g44.ref 0 rfl) ?_
                    refine hd_ipush (z := 70) pkX14_product rfl ?_
                    refine hd_iload pkX14_product rfl rfl ?_
                    refine hd_imul pkX14_product rfl (by omega) ?_
                    refine hd_iald (n := 48300) pkX14_product rfl (g44.cell 1 rfl) (by omega) (by omega) (fun v12 ev12 rv12 => ?_)
                    refine hd_iadd pkX14_product rfl (by omega) ?_
                    refine hd_lload pkX14_product rfl rfl ?_
                    refine hd_l2i pkX14_product rfl (by omega) ?_
                    refine hd_iast (n := 48300) pkX14_product rfl (g44.cell 1 rfl) (by decide) (by omega) (by omega) (fun hh13 ehh13 => ?_)
                    have ghh13 : Str t14 r14 hh13 := by rw [ehh13]; exact g44.setA rfl
                    refine hd_iinc (z := 1) pkX14_product rfl rfl (by omega) rfl ?_
                    change MW _ _ _ _ _ [(5, (0, (i + 1))), (0, (2, ((2495 : Nat) : Int))), (1, (0, a)), (2, (0, b)), (3, (0, c)), (4, (0, (v1 + v2))), (6, (1, c9)), (8, (0, j))] _ _
                    refine hd_goto pkX14_product rfl ?_
                    have ez : ∀ u : Int, 0 ≤ u → ga hh13 2496 u = if u = (((70 * c) + i) + v12) then c9 else ga h8 2496 u := fun u hi => by
                      subst ehh13
                      rw [ga_sa _ _ _ (by omega) hi]
                    have el : ∀ q : Int, 1 ≤ q → q ≠ i + v2 → lm (ga hh13 2496) 70 c q = lm (ga h8 2496) 70 c q := fun q p w => by
                      unfold lm
                      rw [ez _ (by omega), if_neg (by omega)]
                    have ek : lm (ga hh13 2496) 70 c (i + v2) = c9 := by
                      unfold lm
                      rw [ez _ (by omega), if_pos (by omega)]
                    refine m_sub [(0, (2, ((2495 : Nat) : Int))), (1, (0, a)), (2, (0, b)), (3, (0, c)), (4, (0, (v1 + v2))), (5, (0, (i + 1)))] (List.forall_mem_cons.mpr ⟨rfl, List.forall_mem_cons.mpr ⟨rfl, List.forall_mem_cons.mpr ⟨rfl, List.forall_mem_cons.mpr ⟨rfl, List.forall_mem_cons.mpr ⟨rfl, List.forall_mem_cons.mpr ⟨rfl, fun _ h => absurd h List.not_mem_nil⟩⟩⟩⟩⟩⟩) ?_
                    refine ih32  ((i + 1)) hh13 ghh13 ?_ ?_ ?_ ?_ ?_ ?_ ?_ ?_ ?_
                    · subst ehh13
                      exact io.set (by decide)
                    · omega
                    · omega
                    · intro i p q
                      rw [ez i p, if_neg (by omega)]
                      exact i4 i p (by omega)
                    · intro q p w
                      by_cases e : q = i + v2
                      · rw [e, ek]
                        exact c1
                      · rw [el q p e]
                        exact i6 q p w
                    · intro q p w
                      rw [el q (by omega) (by omega)]
                      exact iz3 q (by omega) w
                    · have e : i + 1 - 1 = i := by omega
                      rw [e]
                      have j9 : j = v2 + 1 := by omega
                      rw [j9] at i8
                      have e1 : i + (v2 + 1) - 2 = i + v2 - 1 := by omega
                      have e2 : v2 + 1 - 1 = v2 := by omega
                      rw [e1, e2] at i8
                      have e3 : bl (lm (ga h 2496) 70 b) v2.toNat = vl (ga h 2496) 70 b := by
                        unfold vl
                        congr 1
                        omega
                      rw [e3] at i8
                      exact prod_row (c := c9) (sb := v2) (by omega) (by omega) (by omega) el ek (iz3 _ (by omega) (by omega)) i8
                    · subst ehh13
                      intro j
                      rw [ga_ne _ _ _ _ (by decide)]
                      exact i9 j
                    · omega
                  · skip
                    refine hd_ipush (z := 70) pkX14_product rfl ?_
                    refine hd_iload pkX14_product rfl rfl ?_
                    refine hd_imul pkX14_product rfl (by omega) ?_
                    refine hd_iload pkX14_product rfl rfl ?_
                    refine hd_iadd pkX14_product rfl (by omega) ?_
                    refine hd_iload pkX14_product rfl rfl ?_
                    refine hd_iadd pkX14_product rfl (by omega) ?_
                    refine hd_ipush (z := 1) pkX14_product rfl ?_
                    refine hd_isub pkX14_product rfl (by omega) ?_
                    refine hd_istore pkX14_product rfl rfl ?_
                    change MW _ _ _ _ _ [(9, (0, ((((70 * c) + i) + j) - 1))), (0, (2, ((2495 : Nat) : Int))), (1, (0, a)), (2, (0, b)), (3, (0, c)), (4, (0, (v1 + v2))), (5, (0, i)), (6, (1, c9)), (8, (0, j))] _ _
                    refine hd_lload pkX14_product rfl rfl ?_
                    refine hd_aload pkX14_product rfl rfl (Int.natCast_nonneg _) ?_
                    refine hd_getR (n := 2496) pkX14_product rfl (g44.cell 0 rfl).1 (g44.cell 0 rfl).2.1 (g44.ref 0 rfl) ?_
                    refine hd_iload pkX14_product rfl rfl ?_
                    refine hd_iald (n := 48300) pkX14_product rfl (g44.cell 1 rfl) (by omega) (by omega) (fun v14 ev14 rv14 => ?_)
                    have qp : lm (ga h8 2496) 70 c (i + j - 1) = v14 := by
                      show ga h8 2496 _ = _
                      rw [ev14]
                      congr 1
                      omega
                    have rp : 0 ≤ v14 ∧ v14 < 16777216 := by rw [← qp]; exact i6 _ (by omega) (by omega)
                    refine hd_i2l pkX14_product rfl ?_
                    refine hd_ladd pkX14_product rfl (by omega) ?_
                    refine hd_aload pkX14_product rfl rfl (Int.natCast_nonneg _) ?_
                    refine hd_getR (n := 2496) pkX14_product rfl (g44.cell 0 rfl).1 (g44.cell 0 rfl).2.1 (g44.ref 0 rfl) ?_
                    refine hd_ipush (z := 70) pkX14_product rfl ?_
                    refine hd_iload pkX14_product rfl rfl ?_
                    refine hd_imul pkX14_product rfl (by omega) ?_
                    refine hd_iload pkX14_product rfl rfl ?_
                    refine hd_iadd pkX14_product rfl (by omega) ?_
                    refine hd_iald (n := 48300) pkX14_product rfl (g44.cell 1 rfl) (by omega) (by omega) (fun v15 ev15 rv15 => ?_)
                    have qx : lm (ga h 2496) 70 a i = v15 := by
                      show ga h 2496 _ = _
                      rw [ev15]
                      exact (fa i (by omega) (by omega)).symm
                    have xa : 0 ≤ v15 ∧ v15 < 16777216 := by rw [← qx]; exact A.2.2.1 i (by omega) (by omega)
                    refine hd_i2l pkX14_product rfl ?_
                    refine hd_aload pkX14_product rfl rfl (Int.natCast_nonneg _) ?_
                    refine hd_getR (n := 2496) pkX14_product rfl (g44.cell 0 rfl).1 (g44.cell 0 rfl).2.1 (g44.ref 0 rfl) ?_
                    refine hd_ipush (z := 70) pkX14_product rfl ?_
                    refine hd_iload pkX14_product rfl rfl ?_
                    refine hd_imul pkX14_product rfl (by omega) ?_
                    refine hd_iload pkX14_product rfl rfl ?_
                    refine hd_iadd pkX14_product rfl (by omega) ?_
                    refine hd_iald (n := 48300) pkX14_product rfl (g44.cell 1 rfl) (by omega) (by omega) (fun v16 ev16 rv16 => ?_)
                    have qy : lm (ga h 2496) 70 b j = v16 := by
                      show ga h 2496 _ = _
                      rw [ev16]
                      exact (fb j (by omega) (by omega)).symm
                    have yb : 0 ≤ v16 ∧ v16 < 16777216 := by rw [← qy]; exact B.2.2.1 j (by omega) (by omega)
                    have xy := mul24 xa yb
                    refine hd_i2l pkX14_product rfl ?_
                    refine hd_lmul pkX14_product rfl (by omega) ?_
                    refine hd_ladd pkX14_product rfl (by omega) ?_
                    refine hd_lstore pkX14_product rfl rfl ?_
                    change MW _ _ _ _ _ [(6, (1, ((c9 + v14) + (v15 * v16)))), (9, (0, ((((70 * c) + i) + j) - 1))), (0, (2, ((2495 : Nat) : Int))), (1, (0, a)), (2, (0, b)), (3, (0, c)), (4, (0, (v1 + v2))), (5, (0, i)), (8, (0, j))] _ _
                    refine hd_aload pkX14_product rfl rfl (Int.natCast_nonneg _) ?_
                    refine hd_getR (n := 2496) pkX14_product rfl (g44.cell 0 rfl).1 (g44.cell 0 rfl).2.1 (g44.ref 0 rfl) ?_
                    refine hd_iload pkX14_product rfl rfl ?_
                    refine hd_lload pkX14_product rfl rfl ?_
                    refine hd_lpush (z := 16777215) pkX14_product rfl ?_
                    refine hd_land (v := (((c9 + v14) + (v15 * v16)) % 16777216)) pkX14_product rfl (by exact h_and64 _) ?_
                    refine hd_l2i pkX14_product rfl (by omega) ?_
                    refine hd_iast (n := 48300) pkX14_product rfl (g44.cell 1 rfl) (by decide) (by omega) (by omega) (fun hh17 ehh17 => ?_)
                    have ghh17 : Str t14 r14 hh17 := by rw [ehh17]; exact g44.setA rfl
                    refine hd_lload pkX14_product rfl rfl ?_
                    refine hd_ipush (z := 24) pkX14_product rfl ?_
                    refine hd_lshr (v := (((c9 + v14) + (v15 * v16)) / 16777216)) pkX14_product rfl (by exact h_lshr24 (by omega)) ?_
                    refine hd_lstore pkX14_product rfl rfl ?_
                    change MW _ _ _ _ _ [(6, (1, (((c9 + v14) + (v15 * v16)) / 16777216))), (9, (0, ((((70 * c) + i) + j) - 1))), (0, (2, ((2495 : Nat) : Int))), (1, (0, a)), (2, (0, b)), (3, (0, c)), (4, (0, (v1 + v2))), (5, (0, i)), (8, (0, j))] _ _
                    refine hd_iinc (z := 1) pkX14_product rfl rfl (by omega) rfl ?_
                    change MW _ _ _ _ _ [(8, (0, (j + 1))), (6, (1, (((c9 + v14) + (v15 * v16)) / 16777216))), (9, (0, ((((70 * c) + i) + j) - 1))), (0, (2, ((2495 : Nat) : Int))), (1, (0, a)), (2, (0, b)), (3, (0, c)), (4, (0, (v1 + v2))), (5, (0, i))] _ _
                    refine hd_goto pkX14_product rfl ?_
                    have ez : ∀ u : Int, 0 ≤ u → ga hh17 2496 u = if u = ((((70 * c) + i) + j) - 1) then (((c9 + v14) + (v15 * v16)) % 16777216) else ga h8 2496 u := fun u hi => by
                      subst ehh17
                      rw [ga_sa _ _ _ (by omega) hi]
                    have el : ∀ q : Int, 1 ≤ q → q ≠ i + j - 1 → lm (ga hh17 2496) 70 c q = lm (ga h8 2496) 70 c q := fun q p w => by
                      unfold lm
                      rw [ez _ (by omega), if_neg (by omega)]
                    have ek : lm (ga hh17 2496) 70 c (i + j - 1) = (((c9 + v14) + (v15 * v16)) % 16777216) := by
                      unfold lm
                      rw [ez _ (by omega), if_pos (by omega)]
                    rw [qx] at i8
                    have st9 := prod_step (g := lm (ga h8 2496) 70 c) (g' := lm (ga hh17 2496) 70 c) (V := 0) (c := c9) (x := v15) (y := v16) (i := i) (j := j) (L := v1 + v2) (A := bl (lm (ga h 2496) 70 a) (i - 1).toNat * vl (ga h 2496) 70 b) (B := bl (lm (ga h 2496) 70 b) (j - 1).toNat) (C := bl (lm (ga h 2496) 70 b) j.toNat) j1 m1 (by omega) el (by rw [ek, qp]) i8
                    rw [qp] at st9
                    refine m_sub [(0, (2, ((2495 : Nat) : Int))), (1, (0, a)), (2, (0, b)), (3, (0, c)), (4, (0, (v1 + v2))), (5, (0, i)), (6, (1, (((c9 + v14) + (v15 * v16)) / 16777216))), (8, (0, (j + 1)))] (List.forall_mem_cons.mpr ⟨rfl, List.forall_mem_cons.mpr ⟨rfl, List.forall_mem_cons.mpr ⟨rfl, List.forall_mem_cons.mpr ⟨rfl, List.forall_mem_cons.mpr ⟨rfl, List.forall_mem_cons.mpr ⟨rfl, List.forall_mem_cons.mpr ⟨rfl, List.forall_mem_cons.mpr ⟨rfl, fun _ h => absurd h List.not_mem_nil⟩⟩⟩⟩⟩⟩⟩⟩) ?_
                    refine ih44  ((((c9 + v14) + (v15 * v16)) / 16777216)) ((j + 1)) hh17 ghh17 ?_ ?_ ?_ ?_ ?_ ?_ ?_ ?_ ?_ ?_
                    · subst ehh17
                      exact io.set (by decide)
                    · omega
                    · omega
                    · have := mul24 xa yb
                      omega
                    · intro i p q
                      rw [ez i p, if_neg (by omega)]
                      exact i4 i p (by omega)
                    · intro q p w
                      by_cases e : q = i + j - 1
                      · rw [e, ek]
                        omega
                      · rw [el q p e]
                        exact i6 q p w
                    · intro q p w
                      rw [el q (by omega) (by omega)]
                      exact iz3 q p w
                    · have e : i + (j + 1) - 2 = i + j - 1 := by omega
                      have e2 : j + 1 - 1 = j := by omega
                      rw [e, e2, qx]
                      have en : j.toNat = (j - 1).toNat + 1 := by omega
                      have ec : (((j - 1).toNat : Nat) : Int) + 1 = j := by omega
                      have sb9 := bl_s (lm (ga h 2496) 70 b) (j - 1).toNat
                      rw [← en, ec, qy] at sb9
                      exact st9 sb9
                    · subst ehh17
                      intro j
                      rw [ga_ne _ _ _ _ (by decide)]
                      exact i9 j
                    · omega
              refine m_sub [(0, (2, ((2495 : Nat) : Int))), (1, (0, a)), (2, (0, b)), (3, (0, c)), (4, (0, (v1 + v2))), (5, (0, i)), (6, (1, 0)), (8, (0, 1))] (List.forall_mem_cons.mpr ⟨rfl, List.forall_mem_cons.mpr ⟨rfl, List.forall_mem_cons.mpr ⟨rfl, List.forall_mem_cons.mpr ⟨rfl, List.forall_mem_cons.mpr ⟨rfl, List.forall_mem_cons.mpr ⟨rfl, List.forall_mem_cons.mpr ⟨rfl, List.forall_mem_cons.mpr ⟨rfl, fun _ h => absurd h List.not_mem_nil⟩⟩⟩⟩⟩⟩⟩⟩) ?_
              refine lp44 ((v2 + 1 - (1)) + 1).toNat (0) (1) h7 g32 ?_ ?_ ?_ ?_ ?_ ?_ ?_ ?_ ?_ ?_
              · exact io
              · omega
              · omega
              · decide
              · exact i4
              · exact i6
              · exact iz2
              · rw [i7]
                have e : bl (lm (ga h 2496) 70 b) (1 - 1 : Int).toNat = 0 := rfl
                rw [e, Int.mul_zero, Int.zero_mul, Int.zero_mul]
              · exact i9
              · omega
        refine m_sub [(0, (2, ((2495 : Nat) : Int))), (1, (0, a)), (2, (0, b)), (3, (0, c)), (4, (0, (v1 + v2))), (5, (0, 1))] (List.forall_mem_cons.mpr ⟨rfl, List.forall_mem_cons.mpr ⟨rfl, List.forall_mem_cons.mpr ⟨rfl, List.forall_mem_cons.mpr ⟨rfl, List.forall_mem_cons.mpr ⟨rfl, List.forall_mem_cons.mpr ⟨rfl, fun _ h => absurd h List.not_mem_nil⟩⟩⟩⟩⟩⟩) ?_
        refine lp32 ((v1 + 1 - (1)) + 1).toNat (1) h6 g16 ?_ ?_ ?_ ?_ ?_ ?_ ?_ ?_ ?_
        · exact io
        · omega
        · omega
        · exact i4
        · intro j p q
          rw [iz j p (by omega)]
          decide
        · intro j p q
          exact iz j (by omega) (by omega)
        · rw [bl_ext (k := 0) (v1 + v2).toNat (Nat.zero_le _) (fun j p q => iz j (by omega) (by omega))]
          show 0 = 0 * _
          rw [Int.zero_mul]
        · exact i9
        · omega
      · skip
        refine hd_aload pkX14_product rfl rfl (Int.natCast_nonneg _) ?_
        refine hd_getR (n := 2496) pkX14_product rfl (g16.cell 0 rfl).1 (g16.cell 0 rfl).2.1 (g16.ref 0 rfl) ?_
        refine hd_ipush (z := 70) pkX14_product rfl ?_
        refine hd_iload pkX14_product rfl rfl ?_
        refine hd_imul pkX14_product rfl (by omega) ?_
        refine hd_iload pkX14_product rfl rfl ?_
        refine hd_iadd pkX14_product rfl (by omega) ?_
        refine hd_ipush (z := 0) pkX14_product rfl ?_
        refine hd_iast (n := 48300) pkX14_product rfl (g16.cell 1 rfl) (by decide) (by omega) (by omega) (fun hh18 ehh18 => ?_)
        have ghh18 : Str t14 r14 hh18 := by rw [ehh18]; exact g16.setA rfl
        refine hd_iinc (z := 1) pkX14_product rfl rfl (by omega) rfl ?_
        change MW _ _ _ _ _ [(5, (0, (k + 1))), (0, (2, ((2495 : Nat) : Int))), (1, (0, a)), (2, (0, b)), (3, (0, c)), (4, (0, (v1 + v2)))] _ _
        refine hd_goto pkX14_product rfl ?_
        have ez : ∀ u : Int, 0 ≤ u → ga hh18 2496 u = if u = ((70 * c) + k) then 0 else ga h6 2496 u := fun u hi => by
          subst ehh18
          rw [ga_sa _ _ _ (by omega) hi]
        have el : ∀ q : Int, 1 ≤ q → q ≠ k → lm (ga hh18 2496) 70 c q = lm (ga h6 2496) 70 c q := fun q p w => by
          unfold lm
          rw [ez _ (by omega), if_neg (by omega)]
        have ek : lm (ga hh18 2496) 70 c (k) = 0 := by
          unfold lm
          rw [ez _ (by omega), if_pos (by omega)]
        refine m_sub [(0, (2, ((2495 : Nat) : Int))), (1, (0, a)), (2, (0, b)), (3, (0, c)), (4, (0, (v1 + v2))), (5, (0, (k + 1)))] (List.forall_mem_cons.mpr ⟨rfl, List.forall_mem_cons.mpr ⟨rfl, List.forall_mem_cons.mpr ⟨rfl, List.forall_mem_cons.mpr ⟨rfl, List.forall_mem_cons.mpr ⟨rfl, List.forall_mem_cons.mpr ⟨rfl, fun _ h => absurd h List.not_mem_nil⟩⟩⟩⟩⟩⟩) ?_
        refine ih16  ((k + 1)) hh18 ghh18 ?_ ?_ ?_ ?_ ?_ ?_ ?_
        · subst ehh18
          exact io.set (by decide)
        · omega
        · omega
        · intro i p q
          rw [ez i p, if_neg (by omega)]
          exact i4 i p (by omega)
        · intro j p q
          by_cases w : j = k
          · rw [w]
            exact ek
          · rw [el j p w]
            exact iz j p (by omega)
        · subst ehh18
          intro j
          rw [ga_ne _ _ _ _ (by decide)]
          exact i9 j
        · omega
  refine m_sub [(0, (2, ((2495 : Nat) : Int))), (1, (0, a)), (2, (0, b)), (3, (0, c)), (4, (0, (v1 + v2))), (5, (0, 1))] (List.forall_mem_cons.mpr ⟨rfl, List.forall_mem_cons.mpr ⟨rfl, List.forall_mem_cons.mpr ⟨rfl, List.forall_mem_cons.mpr ⟨rfl, List.forall_mem_cons.mpr ⟨rfl, List.forall_mem_cons.mpr ⟨rfl, fun _ h => absurd h List.not_mem_nil⟩⟩⟩⟩⟩⟩) ?_
  refine lp16 ((v1 + v2 + 1 - (1)) + 1).toNat (1) h g ?_ ?_ ?_ ?_ ?_ ?_ ?_
  · exact Only.refl _ _
  · omega
  · omega
  · exact fun _ _ _ => rfl
  · intro j p q
    omega
  · exact fun _ => rfl
  · omega
