abbrev t14 : List (Nat × Nat × Nat) := [(2495, 30, 0), (2496, 0, 48300), (2497, 0, 690), (2498, 0, 3), (2499, 0, 3), (2500, 2, 4), (2501, 2, 4), (2502, 2, 6), (2503, 0, 4), (2504, 0, 50), (2505, 0, 8), (2506, 0, 8), (2507, 0, 8), (2508, 0, 12), (2509, 0, 3), (2510, 0, 3), (2511, 2, 4), (2512, 2, 4), (2513, 2, 6)]
abbrev r14 : List (Nat × Nat × Nat) := [(2495, 1, 2496), (2495, 2, 2497), (2495, 4, 2498), (2495, 5, 2499), (2495, 6, 2500), (2495, 7, 2501), (2495, 8, 2502), (2495, 9, 2503), (2495, 11, 2504), (2495, 13, 2505), (2495, 14, 2506), (2495, 15, 2507), (2495, 19, 2508), (2495, 21, 2509), (2495, 22, 2510), (2495, 23, 2511), (2495, 24, 2512), (2495, 25, 2513)]
set_option maxRecDepth 20000 in
theorem h_X14_limb {h : MH} {n k : Int} (hn : 0 ≤ n) (hn2 : n < 690) (h1 : 0 ≤ sz (ga h 2496) 70 n) (h2 : sz (ga h 2496) 70 n < 70) (hk : 1 ≤ k) (g : Str t14 r14 h) : MCal KX14_limb yX14_limb 0 0 [(2, ((2495 : Nat) : Int)), (0, n), (0, k)] h (mRI fun v h' => v = lb (ga h 2496) 70 n k ∧ h' = h) := by
  refine MCal.ofMW (Or.inl rfl) ⟨cp_X14, rfl⟩ (Nat.le_of_ble_eq_true rfl) ?_
  generalize eQ : (mRI fun v h' => v = lb (ga h 2496) 70 n k ∧ h' = h : MO → MH → Prop) = Q
  change MW KX14_limb Q 0 0 (pcA pgX14_limb 0) [(0, (2, ((2495 : Nat) : Int))), (1, (0, n)), (2, (0, k))] [] h
  refine hd_locI (i := 1) rfl (fun rn => ?_)
  refine hd_locI (i := 2) rfl (fun rk => ?_)
  have zz : sz (ga h 2496) 70 n = ga h 2496 (70 * n) := rfl
  refine hd_iload pkX14_limb rfl rfl ?_
  refine hd_aload pkX14_limb rfl rfl (Int.natCast_nonneg _) ?_
  refine hd_getR (n := 2496) pkX14_limb rfl (g.cell 0 rfl).1 (g.cell 0 rfl).2.1 (g.ref 0 rfl) ?_
  refine hd_ipush (z := 70) pkX14_limb rfl ?_
  refine hd_iload pkX14_limb rfl rfl ?_
  refine hd_imul pkX14_limb rfl (by omega) ?_
  refine hd_iald (n := 48300) pkX14_limb rfl (g.cell 1 rfl) (by omega) (by omega) (fun v1 ev1 rv1 => ?_)
  refine hd_ic_gt pkX14_limb rfl (fun c2 => ?_) (fun c2 => ?_)
  · skip
    refine hd_ipush (z := 0) pkX14_limb rfl ?_
    refine hd_iret pkX14_limb rfl ?_
    subst eQ
    refine ⟨rfl, rfl, ?_, rfl⟩
    show _ = lb _ _ _ _
    unfold lb
    rw [if_neg (by omega)]
  · skip
    refine hd_aload pkX14_limb rfl rfl (Int.natCast_nonneg _) ?_
    refine hd_getR (n := 2496) pkX14_limb rfl (g.cell 0 rfl).1 (g.cell 0 rfl).2.1 (g.ref 0 rfl) ?_
    refine hd_ipush (z := 70) pkX14_limb rfl ?_
    refine hd_iload pkX14_limb rfl rfl ?_
    refine hd_imul pkX14_limb rfl (by omega) ?_
    refine hd_iload pkX14_limb rfl rfl ?_
    refine hd_iadd pkX14_limb rfl (by omega) ?_
    refine hd_iald (n := 48300) pkX14_limb rfl (g.cell 1 rfl) (by omega) (by omega) (fun v3 ev3 rv3 => ?_)
    refine hd_goto pkX14_limb rfl ?_
    refine hd_iret pkX14_limb rfl ?_
    subst eQ
    refine ⟨rfl, rfl, ?_, rfl⟩
    show _ = lb _ _ _ _
    unfold lb
    rw [if_pos (by omega)]
    assumption
set_option maxRecDepth 20000 in
theorem h_X14_longer {h : MH} {a b : Int} (ha : 0 ≤ a) (ha2 : a < 690) (hb : 0 ≤ b) (hb2 : b < 690) (g : Str t14 r14 h) : MCal KX14_longer yX14_longer 0 0 [(2, ((2495 : Nat) : Int)), (0, a), (0, b)] h (mRI fun v h' => v = (if sz (ga h 2496) 70 b < sz (ga h 2496) 70 a then sz (ga h 2496) 70 a else sz (ga h 2496) 70 b) ∧ h' = h) := by
  refine MCal.ofMW (Or.inl rfl) ⟨cp_X14, rfl⟩ (Nat.le_of_ble_eq_true rfl) ?_
  generalize eQ : (mRI fun v h' => v = (if sz (ga h 2496) 70 b < sz (ga h 2496) 70 a then sz (ga h 2496) 70 a else sz (ga h 2496) 70 b) ∧ h' = h : MO → MH → Prop) = Q
  change MW KX14_longer Q 0 0 (pcA pgX14_longer 0) [(0, (2, ((2495 : Nat) : Int))), (1, (0, a)), (2, (0, b))] [] h
  refine hd_locI (i := 1) rfl (fun ra => ?_)
  refine hd_locI (i := 2) rfl (fun rb => ?_)
  have za : sz (ga h 2496) 70 a = ga h 2496 (70 * a) := rfl
  have zb : sz (ga h 2496) 70 b = ga h 2496 (70 * b) := rfl
  refine hd_aload pkX14_longer rfl rfl (Int.natCast_nonneg _) ?_
  refine hd_getR (n := 2496) pkX14_longer rfl (g.cell 0 rfl).1 (g.cell 0 rfl).2.1 (g.ref 0 rfl) ?_
  refine hd_ipush (z := 70) pkX14_longer rfl ?_
  refine hd_iload pkX14_longer rfl rfl ?_
  refine hd_imul pkX14_longer rfl (by omega) ?_
  refine hd_iald (n := 48300) pkX14_longer rfl (g.cell 1 rfl) (by omega) (by omega) (fun v1 ev1 rv1 => ?_)
  refine hd_aload pkX14_longer rfl rfl (Int.natCast_nonneg _) ?_
  refine hd_getR (n := 2496) pkX14_longer rfl (g.cell 0 rfl).1 (g.cell 0 rfl).2.1 (g.ref 0 rfl) ?_
  refine hd_ipush (z := 70) pkX14_longer rfl ?_
  refine hd_iload pkX14_longer rfl rfl ?_
  refine hd_imul pkX14_longer rfl (by omega) ?_
  refine hd_iald (n := 48300) pkX14_longer rfl (g.cell 1 rfl) (by omega) (by omega) (fun v2 ev2 rv2 => ?_)
  refine hd_ic_le pkX14_longer rfl (fun c3 => ?_) (fun c3 => ?_)
  · skip
    refine hd_aload pkX14_longer rfl rfl (Int.natCast_nonneg _) ?_
    refine hd_getR (n := 2496) pkX14_longer rfl (g.cell 0 rfl).1 (g.cell 0 rfl).2.1 (g.ref 0 rfl) ?_
    refine hd_ipush (z := 70) pkX14_longer rfl ?_
    refine hd_iload pkX14_longer rfl rfl ?_
    refine hd_imul pkX14_longer rfl (by omega) ?_
    refine hd_iald (n := 48300) pkX14_longer rfl (g.cell 1 rfl) (by omega) (by omega) (fun v4 ev4 rv4 => ?_)
    refine hd_iret pkX14_longer rfl ?_
    subst eQ
    refine ⟨rfl, rfl, ?_, rfl⟩
    show v4 = if _ then _ else _
    split <;> omega
  · skip
    refine hd_aload pkX14_longer rfl rfl (Int.natCast_nonneg _) ?_
    refine hd_getR (n := 2496) pkX14_longer rfl (g.cell 0 rfl).1 (g.cell 0 rfl).2.1 (g.ref 0 rfl) ?_
    refine hd_ipush (z := 70) pkX14_longer rfl ?_
    refine hd_iload pkX14_longer rfl rfl ?_
    refine hd_imul pkX14_longer rfl (by omega) ?_
    refine hd_iald (n := 48300) pkX14_longer rfl (g.cell 1 rfl) (by omega) (by omega) (fun v5 ev5 rv5 => ?_)
    refine hd_goto pkX14_longer rfl ?_
    refine hd_iret pkX14_longer rfl ?_
    subst eQ
    refine ⟨rfl, rfl, ?_, rfl⟩
    show v5 = if _ then _ else _
    split <;> omega
set_option maxRecDepth 20000 in
theorem h_X14_isEven {h : MH} {a : Int} (ha : 0 ≤ a) (ha2 : a < 690) (h1 : 0 ≤ sz (ga h 2496) 70 a) (h2 : sz (ga h 2496) 70 a < 70) (g : Str t14 r14 h) : MCal KX14_isEven yX14_isEven 0 0 [(2, ((2495 : Nat) : Int)), (0, a)] h (mRI fun v h' => (v = if lb (ga h 2496) 70 a 1 % 2 = 0 then 1 else 0) ∧ h' = h) := by
  refine MCal.ofMW (Or.inl rfl) ⟨cp_X14, rfl⟩ (Nat.le_of_ble_eq_true rfl) ?_
  generalize eQ : (mRI fun v h' => (v = if lb (ga h 2496) 70 a 1 % 2 = 0 then 1 else 0) ∧ h' = h : MO → MH → Prop) = Q
  change MW KX14_isEven Q 0 0 (pcA pgX14_isEven 0) [(0, (2, ((2495 : Nat) : Int))), (1, (0, a))] [] h
  refine hd_locI (i := 1) rfl (fun ra => ?_)
  refine hd_aload pkX14_isEven rfl rfl (Int.natCast_nonneg _) ?_
  refine hd_iload pkX14_isEven rfl rfl ?_
  refine hd_ipush (z := 1) pkX14_isEven rfl ?_
  refine hd_callV pkX14_isEven rfl (q := (KX14_limb, yX14_limb, 14, 2, 0)) rfl rfl rfl (As := [(0, a), (0, 1)]) (rest := []) (c := 2495) rfl rfl (Nat.le_of_ble_eq_true rfl) (g.cell 0 rfl).1 (g.cell 0 rfl).2.1 (h_X14_limb ha ha2 h1 h2 (by decide) g) (hd_bI (fun w1 hc2 p3 => ?_))
  obtain ⟨p3, ehc2⟩ := p3
  replace ehc2 := ehc2.symm
  subst ehc2
  refine hd_ipush (z := 1) pkX14_isEven rfl ?_
  refine hd_iand (v := (w1 % 2)) pkX14_isEven rfl (by exact h_and1 _) ?_
  refine hd_if_ne pkX14_isEven rfl (fun c4 => ?_) (fun c4 => ?_)
  · skip
    refine hd_ipush (z := 0) pkX14_isEven rfl ?_
    refine hd_zret pkX14_isEven rfl (by omega) ?_
    subst eQ
    refine ⟨rfl, rfl, ?_, rfl⟩
    show (0 : Int) = if lb (ga h 2496) 70 a 1 % 2 = 0 then 1 else 0
    split <;> omega
  · skip
    refine hd_ipush (z := 1) pkX14_isEven rfl ?_
    refine hd_goto pkX14_isEven rfl ?_
    refine hd_zret pkX14_isEven rfl (by omega) ?_
    subst eQ
    refine ⟨rfl, rfl, ?_, rfl⟩
    show (1 : Int) = if lb (ga h 2496) 70 a 1 % 2 = 0 then 1 else 0
    split <;> omega
set_option maxRecDepth 20000 in
theorem h_X14_trim {h : MH} {n l : Int} (hn : 0 ≤ n) (hn2 : n < 690) (h0 : 0 ≤ l) (hl : l < 70) (hd : Dg (ga h 2496) 70 n l) (g : Str t14 r14 h) : MCal KX14_trim yX14_trim 0 0 [(2, ((2495 : Nat) : Int)), (0, n), (0, l)] h (mRV fun h' => Ch 70 2496 2497 [n] h h' ∧ Num (ga h' 2496) 70 n ∧ vl (ga h' 2496) 70 n = bl (lm (ga h 2496) 70 n) l.toNat ∧ sz (ga h' 2496) 70 n ≤ l ∧ ga h' 2497 n = (if sz (ga h' 2496) 70 n = 0 then 0 else ga h 2497 n)) := by
  refine MCal.ofMW (Or.inl rfl) ⟨cp_X14, rfl⟩ (Nat.le_of_ble_eq_true rfl) ?_
  generalize eQ : (mRV fun h' => Ch 70 2496 2497 [n] h h' ∧ Num (ga h' 2496) 70 n ∧ vl (ga h' 2496) 70 n = bl (lm (ga h 2496) 70 n) l.toNat ∧ sz (ga h' 2496) 70 n ≤ l ∧ ga h' 2497 n = (if sz (ga h' 2496) 70 n = 0 then 0 else ga h 2497 n) : MO → MH → Prop) = Q
  change MW KX14_trim Q 0 0 (pcA pgX14_trim 0) [(0, (2, ((2495 : Nat) : Int))), (1, (0, n)), (2, (0, l))] [] h
  refine hd_locI (i := 1) rfl (fun rn => ?_)
  refine hd_locI (i := 2) rfl (fun rl => ?_)
  refine hd_iload pkX14_trim rfl rfl ?_
  refine hd_istore pkX14_trim rfl rfl ?_
  change MW _ _ _ _ _ [(3, (0, l)), (0, (2, ((2495 : Nat) : Int))), (1, (0, n)), (2, (0, l))] _ _
  have lp2 : ∀ (N : Nat) (k : Int), (0 ≤ k) → (k ≤ l) → (∀ j : Int, k < j → j ≤ l → lm (ga h 2496) 70 n j = 0) → k < (N : Int) → MW KX14_trim Q 0 0 (pcA pgX14_trim 2) [(0, (2, ((2495 : Nat) : Int))), (1, (0, n)), (2, (0, l)), (3, (0, k))] [] h := by
    intro N
    induction N with
    | zero => intro k k0 k1 kz hm; exfalso; omega
    | succ N ih =>
      intro k k0 k1 kz hm
      refine hd_iload pkX14_trim rfl rfl ?_
      refine hd_if_le pkX14_trim rfl (fun c1 => ?_) (fun c1 => ?_)
      · skip
        refine hd_aload pkX14_trim rfl rfl (Int.natCast_nonneg _) ?_
        refine hd_getR (n := 2496) pkX14_trim rfl (g.cell 0 rfl).1 (g.cell 0 rfl).2.1 (g.ref 0 rfl) ?_
        refine hd_ipush (z := 70) pkX14_trim rfl ?_
        refine hd_iload pkX14_trim rfl rfl ?_
        refine hd_imul pkX14_trim rfl (by omega) ?_
        refine hd_iload pkX14_trim rfl rfl ?_
        refine hd_iast (n := 48300) pkX14_trim rfl (g.cell 1 rfl) (by decide) (by omega) (by omega) (fun hh2 ehh2 => ?_)
        have ghh2 : Str t14 r14 hh2 := by rw [ehh2]; exact g.setA rfl
        refine hd_aload pkX14_trim rfl rfl (Int.natCast_nonneg _) ?_
        refine hd_getR (n := 2497) pkX14_trim rfl (ghh2.cell 0 rfl).1 (ghh2.cell 0 rfl).2.1 (ghh2.ref 1 rfl) ?_
        refine hd_iload pkX14_trim rfl rfl ?_
        refine hd_iload pkX14_trim rfl rfl ?_
        refine hd_if_ne pkX14_trim rfl (fun c3 => ?_) (fun c3 => ?_)
        · skip
          refine hd_aload pkX14_trim rfl rfl (Int.natCast_nonneg _) ?_
          refine hd_getR (n := 2497) pkX14_trim rfl (ghh2.cell 0 rfl).1 (ghh2.cell 0 rfl).2.1 (ghh2.ref 1 rfl) ?_
          refine hd_iload pkX14_trim rfl rfl ?_
          refine hd_iald (n := 690) pkX14_trim rfl (ghh2.cell 2 rfl) (by omega) (by omega) (fun v4 ev4 rv4 => ?_)
          refine hd_iast (n := 690) pkX14_trim rfl (ghh2.cell 2 rfl) (by decide) (by omega) (by omega) (fun hh5 ehh5 => ?_)
          have ghh5 : Str t14 r14 hh5 := by rw [ehh5]; exact ghh2.setA rfl
          refine hd_vret pkX14_trim rfl ?_
          subst eQ
          have ht : k = 0 ∨ lm (ga h 2496) 70 n k ≠ 0 := by
            show k = 0 ∨ ga h 2496 (70 * n + k) ≠ 0
            omega
          have oo : Only [2496, 2497] h hh5 := by
            subst ehh5 ehh2
            exact (Only.refl _ _).set (by decide) |>.set (by decide)
          have ez : ∀ i : Int, 0 ≤ i → ga hh5 2496 i = if i = 70 * n then k else ga h 2496 i := fun i hi => by
            subst ehh5 ehh2
            rw [ga_ne _ _ _ _ (by decide), ga_sa _ _ _ (by omega) hi]
          have es : ∀ j : Int, 0 ≤ j → ga hh5 2497 j = if j = n then v4 else ga h 2497 j := fun j hj => by
            subst ehh5 ehh2
            rw [ga_sa _ _ _ hn hj, ga_ne _ _ _ _ (by decide)]
          have ss : v4 = if k = 0 then 0 else ga h 2497 n := by
            subst ehh5 ehh2
            try rw [ga_ne _ _ _ _ (by decide)] at *
            split <;> omega
          have T := trim_num (Z := ga h 2496) (Z' := ga hh5 2496) (by decide) hn k0 k1 hl hd kz ht (by rw [ez _ (by omega), if_pos rfl]) (fun i p q => by rw [ez i p, if_neg q])
          refine ⟨rfl, ⟨oo, fun i p q => ?_, fun j p q => ?_⟩, T.1, T.2.1, by rw [T.2.2]; exact k1, ?_⟩
          · rw [ez i p, if_neg]
            have := q n List.mem_cons_self
            omega
          · rw [es j p, if_neg]
            exact fun e => q (e ▸ List.mem_cons_self)
          · rw [es n hn, if_pos rfl, T.2.2]
            exact ss
        · skip
          refine hd_ipush (z := 0) pkX14_trim rfl ?_
          refine hd_goto pkX14_trim rfl ?_
          refine hd_iast (n := 690) pkX14_trim rfl (ghh2.cell 2 rfl) (by decide) (by omega) (by omega) (fun hh6 ehh6 => ?_)
          have ghh6 : Str t14 r14 hh6 := by rw [ehh6]; exact ghh2.setA rfl
          refine hd_vret pkX14_trim rfl ?_
          subst eQ
          have ht : k = 0 ∨ lm (ga h 2496) 70 n k ≠ 0 := by
            show k = 0 ∨ ga h 2496 (70 * n + k) ≠ 0
            omega
          have oo : Only [2496, 2497] h hh6 := by
            subst ehh6 ehh2
            exact (Only.refl _ _).set (by decide) |>.set (by decide)
          have ez : ∀ i : Int, 0 ≤ i → ga hh6 2496 i = if i = 70 * n then k else ga h 2496 i := fun i hi => by
            subst ehh6 ehh2
            rw [ga_ne _ _ _ _ (by decide), ga_sa _ _ _ (by omega) hi]
          have es : ∀ j : Int, 0 ≤ j → ga hh6 2497 j = if j = n then 0 else ga h 2497 j := fun j hj => by
            subst ehh6 ehh2
            rw [ga_sa _ _ _ hn hj, ga_ne _ _ _ _ (by decide)]
          have ss : 0 = if k = 0 then 0 else ga h 2497 n := by
            subst ehh6 ehh2
            try rw [ga_ne _ _ _ _ (by decide)] at *
            split <;> omega
          have T := trim_num (Z := ga h 2496) (Z' := ga hh6 2496) (by decide) hn k0 k1 hl hd kz ht (by rw [ez _ (by omega), if_pos rfl]) (fun i p q => by rw [ez i p, if_neg q])
          refine ⟨rfl, ⟨oo, fun i p q => ?_, fun j p q => ?_⟩, T.1, T.2.1, by rw [T.2.2]; exact k1, ?_⟩
          · rw [ez i p, if_neg]
            have := q n List.mem_cons_self
            omega
          · rw [es j p, if_neg]
            exact fun e => q (e ▸ List.mem_cons_self)
          · rw [es n hn, if_pos rfl, T.2.2]
            exact ss
      · skip
        refine hd_aload pkX14_trim rfl rfl (Int.natCast_nonneg _) ?_
        refine hd_getR (n := 2496) pkX14_trim rfl (g.cell 0 rfl).1 (g.cell 0 rfl).2.1 (g.ref 0 rfl) ?_
        refine hd_ipush (z := 70) pkX14_trim rfl ?_
        refine hd_iload pkX14_trim rfl rfl ?_
        refine hd_imul pkX14_trim rfl (by omega) ?_
        refine hd_iload pkX14_trim rfl rfl ?_
        refine hd_iadd pkX14_trim rfl (by omega) ?_
        refine hd_iald (n := 48300) pkX14_trim rfl (g.cell 1 rfl) (by omega) (by omega) (fun v7 ev7 rv7 => ?_)
        refine hd_if_ne pkX14_trim rfl (fun c8 => ?_) (fun c8 => ?_)
        · skip
          refine hd_aload pkX14_trim rfl rfl (Int.natCast_nonneg _) ?_
          refine hd_getR (n := 2496) pkX14_trim rfl (g.cell 0 rfl).1 (g.cell 0 rfl).2.1 (g.ref 0 rfl) ?_
          refine hd_ipush (z := 70) pkX14_trim rfl ?_
          refine hd_iload pkX14_trim rfl rfl ?_
          refine hd_imul pkX14_trim rfl (by omega) ?_
          refine hd_iload pkX14_trim rfl rfl ?_
          refine hd_iast (n := 48300) pkX14_trim rfl (g.cell 1 rfl) (by decide) (by omega) (by omega) (fun hh9 ehh9 => ?_)
          have ghh9 : Str t14 r14 hh9 := by rw [ehh9]; exact g.setA rfl
          refine hd_aload pkX14_trim rfl rfl (Int.natCast_nonneg _) ?_
          refine hd_getR (n := 2497) pkX14_trim rfl (ghh9.cell 0 rfl).1 (ghh9.cell 0 rfl).2.1 (ghh9.ref 1 rfl) ?_
          refine hd_iload pkX14_trim rfl rfl ?_
          refine hd_iload pkX14_trim rfl rfl ?_
          refine hd_if_ne pkX14_trim rfl (fun c10 => ?_) (fun c10 => ?_)
          · skip
            refine hd_aload pkX14_trim rfl rfl (Int.natCast_nonneg _) ?_
            refine hd_getR (n := 2497) pkX14_trim rfl (ghh9.cell 0 rfl).1 (ghh9.cell 0 rfl).2.1 (ghh9.ref 1 rfl) ?_
            refine hd_iload pkX14_trim rfl rfl ?_
            refine hd_iald (n := 690) pkX14_trim rfl (ghh9.cell 2 rfl) (by omega) (by omega) (fun v11 ev11 rv11 => ?_)
            refine hd_iast (n := 690) pkX14_trim rfl (ghh9.cell 2 rfl) (by decide) (by omega) (by omega) (fun hh12 ehh12 => ?_)
            have ghh12 : Str t14 r14 hh12 := by rw [ehh12]; exact ghh9.setA rfl
            refine hd_vret pkX14_trim rfl ?_
            subst eQ
            have ht : k = 0 ∨ lm (ga h 2496) 70 n k ≠ 0 := by
              show k = 0 ∨ ga h 2496 (70 * n + k) ≠ 0
              omega
            have oo : Only [2496, 2497] h hh12 := by
              subst ehh12 ehh9
              exact (Only.refl _ _).set (by decide) |>.set (by decide)
            have ez : ∀ i : Int, 0 ≤ i → ga hh12 2496 i = if i = 70 * n then k else ga h 2496 i := fun i hi => by
              subst ehh12 ehh9
              rw [ga_ne _ _ _ _ (by decide), ga_sa _ _ _ (by omega) hi]
            have es : ∀ j : Int, 0 ≤ j → ga hh12 2497 j = if j = n then v11 else ga h 2497 j := fun j hj => by
              subst ehh12 ehh9
              rw [ga_sa _ _ _ hn hj, ga_ne _ _ _ _ (by decide)]
            have ss : v11 = if k = 0 then 0 else ga h 2497 n := by
              subst ehh12 ehh9
              try rw [ga_ne _ _ _ _ (by decide)] at *
              split <;> omega
            have T := trim_num (Z := ga h 2496) (Z' := ga hh12 2496) (by decide) hn k0 k1 hl hd kz ht (by rw [ez _ (by omega), if_pos rfl]) (fun i p q => by rw [ez i p, if_neg q])
            refine ⟨rfl, ⟨oo, fun i p q => ?_, fun j p q => ?_⟩, T.1, T.2.1, by rw [T.2.2]; exact k1, ?_⟩
            · rw [ez i p, if_neg]
              have := q n List.mem_cons_self
              omega
            · rw [es j p, if_neg]
              exact fun e => q (e ▸ List.mem_cons_self)
            · rw [es n hn, if_pos rfl, T.2.2]
              exact ss
          · skip
            refine hd_ipush (z := 0) pkX14_trim rfl ?_
            refine hd_goto pkX14_trim rfl ?_
            refine hd_iast (n := 690) pkX14_trim rfl (ghh9.cell 2 rfl) (by decide) (by omega) (by omega) (fun hh13 ehh13 => ?_)
            have ghh13 : Str t14 r14 hh13 := by rw [ehh13]; exact ghh9.setA rfl
            refine hd_vret pkX14_trim rfl ?_
            subst eQ
            have ht : k = 0 ∨ lm (ga h 2496) 70 n k ≠ 0 := by
              show k = 0 ∨ ga h 2496 (70 * n + k) ≠ 0
              omega
            have oo : Only [2496, 2497] h hh13 := by
              subst ehh13 ehh9
              exact (Only.refl _ _).set (by decide) |>.set (by decide)
            have ez : ∀ i : Int, 0 ≤ i → ga hh13 2496 i = if i = 70 * n then k else ga h 2496 i := fun i hi => by
              subst ehh13 ehh9
              rw [ga_ne _ _ _ _ (by decide), ga_sa _ _ _ (by omega) hi]
            have es : ∀ j : Int, 0 ≤ j → ga hh13 2497 j = if j = n then 0 else ga h 2497 j := fun j hj => by
              subst ehh13 ehh9
              rw [ga_sa _ _ _ hn hj, ga_ne _ _ _ _ (by decide)]
            have ss : 0 = if k = 0 then 0 else ga h 2497 n := by
              subst ehh13 ehh9
              try rw [ga_ne _ _ _ _ (by decide)] at *
              split <;> omega
            have T := trim_num (Z := ga h 2496) (Z' := ga hh13 2496) (by decide) hn k0 k1 hl hd kz ht (by rw [ez _ (by omega), if_pos rfl]) (fun i p q => by rw [ez i p, if_neg q])
            refine ⟨rfl, ⟨oo, fun i p q => ?_, fun j p q => ?_⟩, T.1, T.2.1, by rw [T.2.2]; exact k1, ?_⟩
            · rw [ez i p, if_neg]
              have := q n List.mem_cons_self
              omega
            · rw [es j p, if_neg]
              exact fun e => q (e ▸ List.mem_cons_self)
            · rw [es n hn, if_pos rfl, T.2.2]
              exact ss
        · skip
          refine hd_iinc (z := (-1)) pkX14_trim rfl rfl (by omega) rfl ?_
          change MW _ _ _ _ _ [(3, (0, (k + (-1)))), (0, (2, ((2495 : Nat) : Int))), (1, (0, n)), (2, (0, l))] _ _
          refine hd_goto pkX14_trim rfl ?_
          refine m_sub [(0, (2, ((2495 : Nat) : Int))), (1, (0, n)), (2, (0, l)), (3, (0, (k + (-1))))] (List.forall_mem_cons.mpr ⟨rfl, List.forall_mem_cons.mpr ⟨rfl, List.forall_mem_cons.mpr ⟨rfl, List.forall_mem_cons.mpr ⟨rfl, fun _ h => absurd h List.not_mem_nil⟩⟩⟩⟩) ?_
          refine ih  ((k + (-1))) ?_ ?_ ?_ ?_
          · omega
          · omega
          · intro j p q
            by_cases w : j = k
            · rw [w]
              show ga h 2496 (70 * n + k) = 0
              omega
            · exact kz j (by omega) q
          · omega
  refine m_sub [(0, (2, ((2495 : Nat) : Int))), (1, (0, n)), (2, (0, l)), (3, (0, l))] (List.forall_mem_cons.mpr ⟨rfl, List.forall_mem_cons.mpr ⟨rfl, List.forall_mem_cons.mpr ⟨rfl, List.forall_mem_cons.mpr ⟨rfl, fun _ h => absurd h List.not_mem_nil⟩⟩⟩⟩) ?_
  refine lp2 (((l)) + 1).toNat (l) ?_ ?_ ?_ ?_
  · omega
  · omega
  · intro j p q
    omega
  · omega
set_option maxRecDepth 20000 in
theorem h_X14_copy {h : MH} {a b : Int} (ha : 0 ≤ a) (ha2 : a < 690) (hb : 0 ≤ b) (hb2 : b < 690) (hN : Num (ga h 2496) 70 a) (g : Str t14 r14 h) : MCal KX14_copy yX14_copy 0 0 [(2, ((2495 : Nat) : Int)), (0, a), (0, b)] h (mRV fun h' => Ch 70 2496 2497 [b] h h' ∧ Num (ga h' 2496) 70 b ∧ vl (ga h' 2496) 70 b = vl (ga h 2496) 70 a ∧ sz (ga h' 2496) 70 b = sz (ga h 2496) 70 a ∧ ga h' 2497 b = ga h 2497 a) := by
  refine MCal.ofMW (Or.inl rfl) ⟨cp_X14, rfl⟩ (Nat.le_of_ble_eq_true rfl) ?_
  generalize eQ : (mRV fun h' => Ch 70 2496 2497 [b] h h' ∧ Num (ga h' 2496) 70 b ∧ vl (ga h' 2496) 70 b = vl (ga h 2496) 70 a ∧ sz (ga h' 2496) 70 b = sz (ga h 2496) 70 a ∧ ga h' 2497 b = ga h 2497 a : MO → MH → Prop) = Q
  change MW KX14_copy Q 0 0 (pcA pgX14_copy 0) [(0, (2, ((2495 : Nat) : Int))), (1, (0, a)), (2, (0, b))] [] h
  refine hd_locI (i := 1) rfl (fun ra => ?_)
  refine hd_locI (i := 2) rfl (fun rb => ?_)
  have n1 := hN.1
  have n2 := hN.2.1
  refine hd_ipush (z := 0) pkX14_copy rfl ?_
  refine hd_istore pkX14_copy rfl rfl ?_
  change MW _ _ _ _ _ [(3, (0, 0)), (0, (2, ((2495 : Nat) : Int))), (1, (0, a)), (2, (0, b))] _ _
  have lp2 : ∀ (N : Nat) (k : Int) (h2 : MH), Str t14 r14 h2 → (Only [2496, 2497] h h2) → (0 ≤ k) → (k ≤ sz (ga h 2496) 70 a + 1) → (∀ i : Int, 0 ≤ i → ga h2 2496 i = if 70 * b ≤ i ∧ i < 70 * b + k then ga h 2496 (i - 70 * b + 70 * a) else ga h 2496 i) → (∀ j : Int, ga h2 2497 j = ga h 2497 j) → sz (ga h 2496) 70 a + 1 - k < (N : Int) → MW KX14_copy Q 0 0 (pcA pgX14_copy 2) [(0, (2, ((2495 : Nat) : Int))), (1, (0, a)), (2, (0, b)), (3, (0, k))] [] h2 := by
    intro N
    induction N with
    | zero => intro k h2 g2 kc k0 k1 kz ks hm; exfalso; omega
    | succ N ih =>
      intro k h2 g2 kc k0 k1 kz ks hm
      have rd : ∀ j : Int, 0 ≤ j → j < 70 → k ≤ j → ga h2 2496 (70 * a + j) = ga h 2496 (70 * a + j) := fun j p q r => by
        rw [kz _ (by omega)]
        by_cases e : a = b
        · subst e
          rw [if_neg (by omega)]
        · rw [if_neg (fun x => apart (W := 70) (by decide) e (i := 70 * a + j) ⟨by omega, by omega⟩ ⟨x.1, by omega⟩)]
      have r0 : ga h2 2496 (70 * a) = sz (ga h 2496) 70 a := by
        by_cases e : k = 0
        · have := rd 0 (by omega) (by decide) (by omega)
          rw [Int.add_zero] at this
          exact this
        · rw [kz _ (by omega)]
          by_cases e : a = b
          · subst e
            rw [if_pos (by omega)]
            show ga h 2496 (70 * a - 70 * a + 70 * a) = ga h 2496 (70 * a)
            congr 1
            omega
          · rw [if_neg (fun x => apart (W := 70) (by decide) e (i := 70 * a) ⟨by omega, by omega⟩ ⟨x.1, by omega⟩)]
            rfl
      refine hd_iload pkX14_copy rfl rfl ?_
      refine hd_aload pkX14_copy rfl rfl (Int.natCast_nonneg _) ?_
      refine hd_getR (n := 2496) pkX14_copy rfl (g2.cell 0 rfl).1 (g2.cell 0 rfl).2.1 (g2.ref 0 rfl) ?_
      refine hd_ipush (z := 70) pkX14_copy rfl ?_
      refine hd_iload pkX14_copy rfl rfl ?_
      refine hd_imul pkX14_copy rfl (by omega) ?_
      refine hd_iald (n := 48300) pkX14_copy rfl (g2.cell 1 rfl) (by omega) (by omega) (fun v1 ev1 rv1 => ?_)
      refine hd_ic_gt pkX14_copy rfl (fun c2 => ?_) (fun c2 => ?_)
      · skip
        refine hd_aload pkX14_copy rfl rfl (Int.natCast_nonneg _) ?_
        refine hd_getR (n := 2497) pkX14_copy rfl (g2.cell 0 rfl).1 (g2.cell 0 rfl).2.1 (g2.ref 1 rfl) ?_
        refine hd_iload pkX14_copy rfl rfl ?_
        refine hd_aload pkX14_copy rfl rfl (Int.natCast_nonneg _) ?_
        refine hd_getR (n := 2497) pkX14_copy rfl (g2.cell 0 rfl).1 (g2.cell 0 rfl).2.1 (g2.ref 1 rfl) ?_
        refine hd_iload pkX14_copy rfl rfl ?_
        refine hd_iald (n := 690) pkX14_copy rfl (g2.cell 2 rfl) (by omega) (by omega) (fun v3 ev3 rv3 => ?_)
        refine hd_iast (n := 690) pkX14_copy rfl (g2.cell 2 rfl) (by decide) (by omega) (by omega) (fun hh4 ehh4 => ?_)
        have ghh4 : Str t14 r14 hh4 := by rw [ehh4]; exact g2.setA rfl
        refine hd_vret pkX14_copy rfl ?_
        subst eQ
        have kk : k = sz (ga h 2496) 70 a + 1 := by omega
        have ez : ∀ i : Int, 0 ≤ i → ga hh4 2496 i = if 70 * b ≤ i ∧ i < 70 * b + (sz (ga h 2496) 70 a + 1) then ga h 2496 (i - 70 * b + 70 * a) else ga h 2496 i := fun i hi => by
          subst ehh4
          rw [ga_ne _ _ _ _ (by decide), ← kk]
          exact kz i hi
        have es : ∀ j : Int, 0 ≤ j → ga hh4 2497 j = if j = b then v3 else ga h 2497 j := fun j hj => by
          subst ehh4
          rw [ga_sa _ _ _ hb hj, ks j]
        have T := copy_num (Z := ga h 2496) (Z' := ga hh4 2496) (by decide) hb hN ez
        refine ⟨rfl, ⟨?_, fun i p q => ?_, fun j p q => ?_⟩, T.1, T.2.1, T.2.2, ?_⟩
        · subst ehh4
          exact kc.set (by decide)
        · rw [ez i p, if_neg]
          have := q b List.mem_cons_self
          omega
        · rw [es j p, if_neg]
          exact fun e => q (e ▸ List.mem_cons_self)
        · rw [es b hb, if_pos rfl]
          have := ks a
          omega
      · skip
        refine hd_aload pkX14_copy rfl rfl (Int.natCast_nonneg _) ?_
        refine hd_getR (n := 2496) pkX14_copy rfl (g2.cell 0 rfl).1 (g2.cell 0 rfl).2.1 (g2.ref 0 rfl) ?_
        refine hd_ipush (z := 70) pkX14_copy rfl ?_
        refine hd_iload pkX14_copy rfl rfl ?_
        refine hd_imul pkX14_copy rfl (by omega) ?_
        refine hd_iload pkX14_copy rfl rfl ?_
        refine hd_iadd pkX14_copy rfl (by omega) ?_
        refine hd_aload pkX14_copy rfl rfl (Int.natCast_nonneg _) ?_
        refine hd_getR (n := 2496) pkX14_copy rfl (g2.cell 0 rfl).1 (g2.cell 0 rfl).2.1 (g2.ref 0 rfl) ?_
        refine hd_ipush (z := 70) pkX14_copy rfl ?_
        refine hd_iload pkX14_copy rfl rfl ?_
        refine hd_imul pkX14_copy rfl (by omega) ?_
        refine hd_iload pkX14_copy rfl rfl ?_
        refine hd_iadd pkX14_copy rfl (by omega) ?_
        refine hd_iald (n := 48300) pkX14_copy rfl (g2.cell 1 rfl) (by omega) (by omega) (fun v5 ev5 rv5 => ?_)
        refine hd_iast (n := 48300) pkX14_copy rfl (g2.cell 1 rfl) (by decide) (by omega) (by omega) (fun hh6 ehh6 => ?_)
        have ghh6 : Str t14 r14 hh6 := by rw [ehh6]; exact g2.setA rfl
        refine hd_iinc (z := 1) pkX14_copy rfl rfl (by omega) rfl ?_
        change MW _ _ _ _ _ [(3, (0, (k + 1))), (0, (2, ((2495 : Nat) : Int))), (1, (0, a)), (2, (0, b))] _ _
        refine hd_goto pkX14_copy rfl ?_
        refine m_sub [(0, (2, ((2495 : Nat) : Int))), (1, (0, a)), (2, (0, b)), (3, (0, (k + 1)))] (List.forall_mem_cons.mpr ⟨rfl, List.forall_mem_cons.mpr ⟨rfl, List.forall_mem_cons.mpr ⟨rfl, List.forall_mem_cons.mpr ⟨rfl, fun _ h => absurd h List.not_mem_nil⟩⟩⟩⟩) ?_
        refine ih  ((k + 1)) hh6 ghh6 ?_ ?_ ?_ ?_ ?_ ?_
        · subst ehh6
          exact kc.set (by decide)
        · omega
        · omega
        · intro i p
          subst ehh6
          rw [ga_sa _ _ _ (by omega) p]
          split
          · next e =>
            rw [if_pos (by omega)]
            have := rd k k0 (by omega) (Int.le_refl _)
            have e2 : i - 70 * b + 70 * a = 70 * a + k := by omega
            rw [e2]
            omega
          · next e =>
            rw [kz i p]
            by_cases q : 70 * b ≤ i ∧ i < 70 * b + k
            · rw [if_pos q, if_pos (by omega)]
            · rw [if_neg q, if_neg (by omega)]
        · intro j
          subst ehh6
          rw [ga_ne _ _ _ _ (by decide)]
          exact ks j
        · omega
  refine m_sub [(0, (2, ((2495 : Nat) : Int))), (1, (0, a)), (2, (0, b)), (3, (0, 0))] (List.forall_mem_cons.mpr ⟨rfl, List.forall_mem_cons.mpr ⟨rfl, List.forall_mem_cons.mpr ⟨rfl, List.forall_mem_cons.mpr ⟨rfl, fun _ h => absurd h List.not_mem_nil⟩⟩⟩⟩) ?_
  refine lp2 ((sz (ga h 2496) 70 a + 1 - (0)) + 1).toNat (0) h g ?_ ?_ ?_ ?_ ?_ ?_
  · exact Only.refl _ _
  · decide
  · omega
  · intro i p
    rw [if_neg (by omega)]
  · intro j
    rfl
  · omega
set_option maxRecDepth 20000 in
theorem h_X14_compare {h : MH} {a b : Int} (ha : 0 ≤ a) (ha2 : a < 690) (hb : 0 ≤ b) (hb2 : b < 690) (A : Num (ga h 2496) 70 a) (B : Num (ga h 2496) 70 b) (g : Str t14 r14 h) : MCal KX14_compare yX14_compare 0 0 [(2, ((2495 : Nat) : Int)), (0, a), (0, b)] h (mRI fun v h' => ((vl (ga h 2496) 70 a < vl (ga h 2496) 70 b → v < 0) ∧ (vl (ga h 2496) 70 a = vl (ga h 2496) 70 b → v = 0) ∧ (vl (ga h 2496) 70 b < vl (ga h 2496) 70 a → 0 < v)) ∧ h' = h) := by
  refine MCal.ofMW (Or.inl rfl) ⟨cp_X14, rfl⟩ (Nat.le_of_ble_eq_true rfl) ?_
  generalize eQ : (mRI fun v h' => ((vl (ga h 2496) 70 a < vl (ga h 2496) 70 b → v < 0) ∧ (vl (ga h 2496) 70 a = vl (ga h 2496) 70 b → v = 0) ∧ (vl (ga h 2496) 70 b < vl (ga h 2496) 70 a → 0 < v)) ∧ h' = h : MO → MH → Prop) = Q
  change MW KX14_compare Q 0 0 (pcA pgX14_compare 0) [(0, (2, ((2495 : Nat) : Int))), (1, (0, a)), (2, (0, b))] [] h
  refine hd_locI (i := 1) rfl (fun ra => ?_)
  refine hd_locI (i := 2) rfl (fun rb => ?_)
  have A1 := A.1
  have A2 := A.2.1
  have B1 := B.1
  have B2 := B.2.1
  refine hd_aload pkX14_compare rfl rfl (Int.natCast_nonneg _) ?_
  refine hd_iload pkX14_compare rfl rfl ?_
  refine hd_iload pkX14_compare rfl rfl ?_
  refine hd_callV pkX14_compare rfl (q := (KX14_longer, yX14_longer, 14, 2, 0)) rfl rfl rfl (As := [(0, a), (0, b)]) (rest := []) (c := 2495) rfl rfl (Nat.le_of_ble_eq_true rfl) (g.cell 0 rfl).1 (g.cell 0 rfl).2.1 (h_X14_longer ha ha2 hb hb2 g) (hd_bI (fun m hc1 p2 => ?_))
  obtain ⟨p2, ehc1⟩ := p2
  replace ehc1 := ehc1.symm
  subst ehc1
  have ma : sz (ga h 2496) 70 a ≤ m := by rw [p2]; split <;> omega
  have mb : sz (ga h 2496) 70 b ≤ m := by rw [p2]; split <;> omega
  have mx : m < 70 := by rw [p2]; split <;> omega
  refine hd_istore pkX14_compare rfl rfl ?_
  change MW _ _ _ _ _ [(3, (0, m)), (0, (2, ((2495 : Nat) : Int))), (1, (0, a)), (2, (0, b))] _ _
  have lp5 : ∀ (N : Nat) (k : Int), (k ≤ m) → (0 ≤ k) → (∀ j : Int, k < j → j ≤ m → lb (ga h 2496) 70 a j = lb (ga h 2496) 70 b j) → k < (N : Int) → MW KX14_compare Q 0 0 (pcA pgX14_compare 5) [(0, (2, ((2495 : Nat) : Int))), (1, (0, a)), (2, (0, b)), (3, (0, k))] [] h := by
    intro N
    induction N with
    | zero => intro k k1 k0 ke hm; exfalso; omega
    | succ N ih =>
      intro k k1 k0 ke hm
      refine hd_iload pkX14_compare rfl rfl ?_
      refine hd_if_le pkX14_compare rfl (fun c3 => ?_) (fun c3 => ?_)
      · skip
        refine hd_ipush (z := 0) pkX14_compare rfl ?_
        refine hd_iret pkX14_compare rfl ?_
        subst eQ
        have E := cmp_eq A B ma mb (fun j p q => ke j (by omega) q)
        refine ⟨rfl, rfl, ⟨fun q => ?_, fun _ => rfl, fun q => ?_⟩, rfl⟩ <;> omega
      · skip
        refine hd_aload pkX14_compare rfl rfl (Int.natCast_nonneg _) ?_
        refine hd_iload pkX14_compare rfl rfl ?_
        refine hd_iload pkX14_compare rfl rfl ?_
        refine hd_callV pkX14_compare rfl (q := (KX14_limb, yX14_limb, 14, 2, 0)) rfl rfl rfl (As := [(0, a), (0, k)]) (rest := []) (c := 2495) rfl rfl (Nat.le_of_ble_eq_true rfl) (g.cell 0 rfl).1 (g.cell 0 rfl).2.1 (h_X14_limb ha ha2 A1 A2 (by omega) g) (hd_bI (fun w4 hc5 p6 => ?_))
        obtain ⟨p6, ehc5⟩ := p6
        replace ehc5 := ehc5.symm
        subst ehc5
        refine hd_aload pkX14_compare rfl rfl (Int.natCast_nonneg _) ?_
        refine hd_iload pkX14_compare rfl rfl ?_
        refine hd_iload pkX14_compare rfl rfl ?_
        refine hd_callV pkX14_compare rfl (q := (KX14_limb, yX14_limb, 14, 2, 0)) rfl rfl rfl (As := [(0, b), (0, k)]) (rest := [(0, w4)]) (c := 2495) rfl rfl (Nat.le_of_ble_eq_true rfl) (g.cell 0 rfl).1 (g.cell 0 rfl).2.1 (h_X14_limb hb hb2 B1 B2 (by omega) g) (hd_bI (fun w7 hc8 p9 => ?_))
        obtain ⟨p9, ehc8⟩ := p9
        replace ehc8 := ehc8.symm
        subst ehc8
        refine hd_ic_eq pkX14_compare rfl (fun c10 => ?_) (fun c10 => ?_)
        · skip
          refine hd_iinc (z := (-1)) pkX14_compare rfl rfl (by omega) rfl ?_
          change MW _ _ _ _ _ [(3, (0, (k + (-1)))), (0, (2, ((2495 : Nat) : Int))), (1, (0, a)), (2, (0, b))] _ _
          refine hd_goto pkX14_compare rfl ?_
          refine m_sub [(0, (2, ((2495 : Nat) : Int))), (1, (0, a)), (2, (0, b)), (3, (0, (k + (-1))))] (List.forall_mem_cons.mpr ⟨rfl, List.forall_mem_cons.mpr ⟨rfl, List.forall_mem_cons.mpr ⟨rfl, List.forall_mem_cons.mpr ⟨rfl, fun _ h => absurd h List.not_mem_nil⟩⟩⟩⟩) ?_
          refine ih  ((k + (-1))) ?_ ?_ ?_ ?_
          · omega
          · omega
          · intro j p q
            by_cases w : j = k
            · rw [w]
              omega
            · exact ke j (by omega) q
          · omega
        · skip
          refine hd_aload pkX14_compare rfl rfl (Int.natCast_nonneg _) ?_
          refine hd_iload pkX14_compare rfl rfl ?_
          refine hd_iload pkX14_compare rfl rfl ?_
          refine hd_callV pkX14_compare rfl (q := (KX14_limb, yX14_limb, 14, 2, 0)) rfl rfl rfl (As := [(0, a), (0, k)]) (rest := []) (c := 2495) rfl rfl (Nat.le_of_ble_eq_true rfl) (g.cell 0 rfl).1 (g.cell 0 rfl).2.1 (h_X14_limb ha ha2 A1 A2 (by omega) g) (hd_bI (fun w11 hc12 p13 => ?_))
          obtain ⟨p13, ehc12⟩ := p13
          replace ehc12 := ehc12.symm
          subst ehc12
          refine hd_aload pkX14_compare rfl rfl (Int.natCast_nonneg _) ?_
          refine hd_iload pkX14_compare rfl rfl ?_
          refine hd_iload pkX14_compare rfl rfl ?_
          refine hd_callV pkX14_compare rfl (q := (KX14_limb, yX14_limb, 14, 2, 0)) rfl rfl rfl (As := [(0, b), (0, k)]) (rest := [(0, w11)]) (c := 2495) rfl rfl (Nat.le_of_ble_eq_true rfl) (g.cell 0 rfl).1 (g.cell 0 rfl).2.1 (h_X14_limb hb hb2 B1 B2 (by omega) g) (hd_bI (fun w14 hc15 p16 => ?_))
          obtain ⟨p16, ehc15⟩ := p16
          replace ehc15 := ehc15.symm
          subst ehc15
          refine hd_isub pkX14_compare rfl (by have := lb_rng A (j := k) (by omega); have := lb_rng B (j := k) (by omega); omega) ?_
          refine hd_iret pkX14_compare rfl ?_
          subst eQ
          have E := cmp_ne A B ma mb (by omega) k1 ke
          refine ⟨rfl, rfl, ⟨fun q => ?_, fun q => ?_, fun q => ?_⟩, rfl⟩
          · show (w11 - w14) < 0
            omega
          · show (w11 - w14) = 0
            omega
          · show 0 < (w11 - w14)
            omega
  refine m_sub [(0, (2, ((2495 : Nat) : Int))), (1, (0, a)), (2, (0, b)), (3, (0, m))] (List.forall_mem_cons.mpr ⟨rfl, List.forall_mem_cons.mpr ⟨rfl, List.forall_mem_cons.mpr ⟨rfl, List.forall_mem_cons.mpr ⟨rfl, fun _ h => absurd h List.not_mem_nil⟩⟩⟩⟩) ?_
  refine lp5 (((m)) + 1).toNat (m) ?_ ?_ ?_ ?_
  · omega
  · omega
  · intro j p q
    omega
  · omega
set_option maxRecDepth 20000 in
theorem h_X14_addPlain {h : MH} {a b m : Int} (ha : 0 ≤ a) (ha2 : a < 690) (hb : 0 ≤ b) (hb2 : b < 690) (A : Num (ga h 2496) 70 a) (B : Num (ga h 2496) 70 b) (am : sz (ga h 2496) 70 a ≤ m) (bm : sz (ga h 2496) 70 b ≤ m) (hm : m + 2 < 70) (g : Str t14 r14 h) : MCal KX14_addPlain yX14_addPlain 0 0 [(2, ((2495 : Nat) : Int)), (0, a), (0, b)] h (mRV fun h' => Ch 70 2496 2497 [a] h h' ∧ Num (ga h' 2496) 70 a ∧ vl (ga h' 2496) 70 a = vl (ga h 2496) 70 a + vl (ga h 2496) 70 b ∧ sz (ga h' 2496) 70 a ≤ m + 1 ∧ ga h' 2497 a = (if sz (ga h' 2496) 70 a = 0 then 0 else ga h 2497 a)) := by
  refine MCal.ofMW (Or.inl rfl) ⟨cp_X14, rfl⟩ (Nat.le_of_ble_eq_true rfl) ?_
  generalize eQ : (mRV fun h' => Ch 70 2496 2497 [a] h h' ∧ Num (ga h' 2496) 70 a ∧ vl (ga h' 2496) 70 a = vl (ga h 2496) 70 a + vl (ga h 2496) 70 b ∧ sz (ga h' 2496) 70 a ≤ m + 1 ∧ ga h' 2497 a = (if sz (ga h' 2496) 70 a = 0 then 0 else ga h 2497 a) : MO → MH → Prop) = Q
  change MW KX14_addPlain Q 0 0 (pcA pgX14_addPlain 0) [(0, (2, ((2495 : Nat) : Int))), (1, (0, a)), (2, (0, b))] [] h
  refine hd_locI (i := 1) rfl (fun ra => ?_)
  refine hd_locI (i := 2) rfl (fun rb => ?_)
  have A1 := A.1
  have A2 := A.2.1
  have B1 := B.1
  have B2 := B.2.1
  refine hd_aload pkX14_addPlain rfl rfl (Int.natCast_nonneg _) ?_
  refine hd_iload pkX14_addPlain rfl rfl ?_
  refine hd_iload pkX14_addPlain rfl rfl ?_
  refine hd_callV pkX14_addPlain rfl (q := (KX14_longer, yX14_longer, 14, 2, 0)) rfl rfl rfl (As := [(0, a), (0, b)]) (rest := []) (c := 2495) rfl rfl (Nat.le_of_ble_eq_true rfl) (g.cell 0 rfl).1 (g.cell 0 rfl).2.1 (h_X14_longer ha ha2 hb hb2 g) (hd_bI (fun l hc1 p2 => ?_))
  obtain ⟨p2, ehc1⟩ := p2
  replace ehc1 := ehc1.symm
  subst ehc1
  have ma : sz (ga h 2496) 70 a ≤ l := by rw [p2]; split <;> omega
  have mb : sz (ga h 2496) 70 b ≤ l := by rw [p2]; split <;> omega
  have mx : l ≤ m := by rw [p2]; split <;> omega
  refine hd_istore pkX14_addPlain rfl rfl ?_
  change MW _ _ _ _ _ [(3, (0, l)), (0, (2, ((2495 : Nat) : Int))), (1, (0, a)), (2, (0, b))] _ _
  refine hd_ipush (z := 0) pkX14_addPlain rfl ?_
  refine hd_istore pkX14_addPlain rfl rfl ?_
  change MW _ _ _ _ _ [(4, (0, 0)), (3, (0, l)), (0, (2, ((2495 : Nat) : Int))), (1, (0, a)), (2, (0, b))] _ _
  refine hd_ipush (z := 1) pkX14_addPlain rfl ?_
  refine hd_istore pkX14_addPlain rfl rfl ?_
  change MW _ _ _ _ _ [(5, (0, 1)), (4, (0, 0)), (3, (0, l)), (0, (2, ((2495 : Nat) : Int))), (1, (0, a)), (2, (0, b))] _ _
  have lp9 : ∀ (N : Nat) (c k : Int) (h9 : MH), Str t14 r14 h9 → (Only [2496, 2497] h h9) → (1 ≤ k) → (k ≤ l + 2) → (0 ≤ c ∧ c ≤ 1) → (∀ i : Int, 0 ≤ i → ¬ (70 * a ≤ i ∧ i < 70 * a + k) → ga h9 2496 i = ga h 2496 i) → ((sz (ga h 2496) 70 a ≤ k - 1 → ga h9 2496 (70 * a) = k - 1) ∧ (k - 1 < sz (ga h 2496) 70 a → ga h9 2496 (70 * a) = sz (ga h 2496) 70 a)) → (Dg (ga h9 2496) 70 a (k - 1)) → (bl (lm (ga h9 2496) 70 a) (k - 1).toNat + c * PW (k - 1).toNat = bl (lb (ga h 2496) 70 a) (k - 1).toNat + bl (lb (ga h 2496) 70 b) (k - 1).toNat) → (l + 1 < k → c = 0) → (∀ j : Int, ga h9 2497 j = ga h 2497 j) → l + 2 - k < (N : Int) → MW KX14_addPlain Q 0 0 (pcA pgX14_addPlain 9) [(0, (2, ((2495 : Nat) : Int))), (1, (0, a)), (2, (0, b)), (3, (0, l)), (4, (0, c)), (5, (0, k))] [] h9 := by
    intro N
    induction N with
    | zero => intro c k h9 g9 io k1 k2 c1 i4 i5 i6 i7 i8 i9 hm; exfalso; omega
    | succ N ih =>
      intro c k h9 g9 io k1 k2 c1 i4 i5 i6 i7 i8 i9 hm
      have qa := add_lb (Z := ga h9 2496) (Z0 := ga h 2496) (by decide) ha ha k1 (by omega) A2 i4 i5
      have qb := add_lb (Z := ga h9 2496) (Z0 := ga h 2496) (by decide) ha hb k1 (by omega) B2 i4 i5
      have ra9 := lb_rng A (j := k) k1
      have rb9 := lb_rng B (j := k) k1
      refine hd_iload pkX14_addPlain rfl rfl ?_
      refine hd_iload pkX14_addPlain rfl rfl ?_
      refine hd_ipush (z := 1) pkX14_addPlain rfl ?_
      refine hd_iadd pkX14_addPlain rfl (by omega) ?_
      refine hd_ic_gt pkX14_addPlain rfl (fun c3 => ?_) (fun c3 => ?_)
      · skip
        refine hd_aload pkX14_addPlain rfl rfl (Int.natCast_nonneg _) ?_
        refine hd_iload pkX14_addPlain rfl rfl ?_
        refine hd_iload pkX14_addPlain rfl rfl ?_
        refine hd_ipush (z := 1) pkX14_addPlain rfl ?_
        refine hd_iadd pkX14_addPlain rfl (by omega) ?_
        have hd9 : Dg (ga h9 2496) 70 a (l + 1) := by
          have e : l + 1 = k - 1 := by omega
          rw [e]
          exact i6
        refine hd_callV pkX14_addPlain rfl (q := (KX14_trim, yX14_trim, 14, 2, 0)) rfl rfl rfl (As := [(0, a), (0, (l + 1))]) (rest := []) (c := 2495) rfl rfl (Nat.le_of_ble_eq_true rfl) (g9.cell 0 rfl).1 (g9.cell 0 rfl).2.1 (h_X14_trim ha ha2 (by omega) (by omega) hd9 g9) (hd_bV (fun hc4 pt => ?_))
        have ghc4 : Str t14 r14 hc4 := g9.only pt.1.1 (by decide)
        refine hd_vret pkX14_addPlain rfl ?_
        subst eQ
        have kk : k = l + 2 := by omega
        have c0 := i8 (by omega)
        have e1 : (k - 1).toNat = (l + 1).toNat := by omega
        rw [c0, Int.zero_mul, Int.add_zero, e1] at i7
        have e2 := vl_lb A (m := (l + 1).toNat) (by omega)
        have e3 := vl_lb B (m := (l + 1).toNat) (by omega)
        refine ⟨rfl, ⟨Only.trans io pt.1.1, fun i p q => ?_, fun j p q => ?_⟩, pt.2.1, ?_, by have := pt.2.2.2.1; omega, ?_⟩
        · rw [pt.1.2.1 i p q]
          have := q a List.mem_cons_self
          exact i4 i p (by omega)
        · rw [pt.1.2.2 j p q]
          exact i9 j
        · rw [pt.2.2.1, i7, e2, e3]
        · rw [pt.2.2.2.2, i9 a]
      · skip
        refine hd_aload pkX14_addPlain rfl rfl (Int.natCast_nonneg _) ?_
        refine hd_iload pkX14_addPlain rfl rfl ?_
        refine hd_iload pkX14_addPlain rfl rfl ?_
        refine hd_callV pkX14_addPlain rfl (q := (KX14_limb, yX14_limb, 14, 2, 0)) rfl rfl rfl (As := [(0, a), (0, k)]) (rest := []) (c := 2495) rfl rfl (Nat.le_of_ble_eq_true rfl) (g9.cell 0 rfl).1 (g9.cell 0 rfl).2.1 (h_X14_limb ha ha2 (qa.2.1 A1) qa.2.2 k1 g9) (hd_bI (fun x hc5 px => ?_))
        obtain ⟨px, ehc5⟩ := px
        replace ehc5 := ehc5.symm
        subst ehc5
        refine hd_aload pkX14_addPlain rfl rfl (Int.natCast_nonneg _) ?_
        refine hd_iload pkX14_addPlain rfl rfl ?_
        refine hd_iload pkX14_addPlain rfl rfl ?_
        refine hd_callV pkX14_addPlain rfl (q := (KX14_limb, yX14_limb, 14, 2, 0)) rfl rfl rfl (As := [(0, b), (0, k)]) (rest := [(0, x)]) (c := 2495) rfl rfl (Nat.le_of_ble_eq_true rfl) (g9.cell 0 rfl).1 (g9.cell 0 rfl).2.1 (h_X14_limb hb hb2 (qb.2.1 B1) qb.2.2 k1 g9) (hd_bI (fun y hc6 py => ?_))
        obtain ⟨py, ehc6⟩ := py
        replace ehc6 := ehc6.symm
        subst ehc6
        refine hd_iadd pkX14_addPlain rfl (by omega) ?_
        refine hd_iload pkX14_addPlain rfl rfl ?_
        refine hd_iadd pkX14_addPlain rfl (by omega) ?_
        refine hd_istore pkX14_addPlain rfl rfl ?_
        change MW _ _ _ _ _ [(6, (0, ((x + y) + c))), (0, (2, ((2495 : Nat) : Int))), (1, (0, a)), (2, (0, b)), (3, (0, l)), (4, (0, c)), (5, (0, k))] _ _
        refine hd_aload pkX14_addPlain rfl rfl (Int.natCast_nonneg _) ?_
        refine hd_getR (n := 2496) pkX14_addPlain rfl (g9.cell 0 rfl).1 (g9.cell 0 rfl).2.1 (g9.ref 0 rfl) ?_
        refine hd_ipush (z := 70) pkX14_addPlain rfl ?_
        refine hd_iload pkX14_addPlain rfl rfl ?_
        refine hd_imul pkX14_addPlain rfl (by omega) ?_
        refine hd_iload pkX14_addPlain rfl rfl ?_
        refine hd_iadd pkX14_addPlain rfl (by omega) ?_
        refine hd_iload pkX14_addPlain rfl rfl ?_
        refine hd_ipush (z := 16777215) pkX14_addPlain rfl ?_
        refine hd_iand (v := (((x + y) + c) % 16777216)) pkX14_addPlain rfl (by exact h_and32 _) ?_
        refine hd_iast (n := 48300) pkX14_addPlain rfl (g9.cell 1 rfl) (by decide) (by omega) (by omega) (fun hh7 ehh7 => ?_)
        have ghh7 : Str t14 r14 hh7 := by rw [ehh7]; exact g9.setA rfl
        have e10 : ga hh7 2496 (70 * a) = ga h9 2496 (70 * a) := by rw [ehh7, ga_sa _ _ _ (by omega) (by omega), if_neg (by omega)]
        refine hd_iload pkX14_addPlain rfl rfl ?_
        refine hd_ipush (z := 24) pkX14_addPlain rfl ?_
        refine hd_ishr (v := (((x + y) + c) / 16777216)) pkX14_addPlain rfl (by exact h_shr24 (by omega)) ?_
        refine hd_istore pkX14_addPlain rfl rfl ?_
        change MW _ _ _ _ _ [(4, (0, (((x + y) + c) / 16777216))), (6, (0, ((x + y) + c))), (0, (2, ((2495 : Nat) : Int))), (1, (0, a)), (2, (0, b)), (3, (0, l)), (5, (0, k))] _ _
        refine hd_aload pkX14_addPlain rfl rfl (Int.natCast_nonneg _) ?_
        refine hd_getR (n := 2496) pkX14_addPlain rfl (ghh7.cell 0 rfl).1 (ghh7.cell 0 rfl).2.1 (ghh7.ref 0 rfl) ?_
        refine hd_ipush (z := 70) pkX14_addPlain rfl ?_
        refine hd_iload pkX14_addPlain rfl rfl ?_
        refine hd_imul pkX14_addPlain rfl (by omega) ?_
        refine hd_aload pkX14_addPlain rfl rfl (Int.natCast_nonneg _) ?_
        refine hd_getR (n := 2496) pkX14_addPlain rfl (ghh7.cell 0 rfl).1 (ghh7.cell 0 rfl).2.1 (ghh7.ref 0 rfl) ?_
        refine hd_ipush (z := 70) pkX14_addPlain rfl ?_
        refine hd_iload pkX14_addPlain rfl rfl ?_
        refine hd_imul pkX14_addPlain rfl (by omega) ?_
        refine hd_iald (n := 48300) pkX14_addPlain rfl (ghh7.cell 1 rfl) (by omega) (by omega) (fun v8 ev8 rv8 => ?_)
        refine hd_iload pkX14_addPlain rfl rfl ?_
        refine hd_ic_ge pkX14_addPlain rfl (fun c9 => ?_) (fun c9 => ?_)
        · skip
          refine hd_aload pkX14_addPlain rfl rfl (Int.natCast_nonneg _) ?_
          refine hd_getR (n := 2496) pkX14_addPlain rfl (ghh7.cell 0 rfl).1 (ghh7.cell 0 rfl).2.1 (ghh7.ref 0 rfl) ?_
          refine hd_ipush (z := 70) pkX14_addPlain rfl ?_
          refine hd_iload pkX14_addPlain rfl rfl ?_
          refine hd_imul pkX14_addPlain rfl (by omega) ?_
          refine hd_iald (n := 48300) pkX14_addPlain rfl (ghh7.cell 1 rfl) (by omega) (by omega) (fun v10 ev10 rv10 => ?_)
          refine hd_iast (n := 48300) pkX14_addPlain rfl (ghh7.cell 1 rfl) (by decide) (by omega) (by omega) (fun hh11 ehh11 => ?_)
          have ghh11 : Str t14 r14 hh11 := by rw [ehh11]; exact ghh7.setA rfl
          refine hd_iinc (z := 1) pkX14_addPlain rfl rfl (by omega) rfl ?_
          change MW _ _ _ _ _ [(5, (0, (k + 1))), (4, (0, (((x + y) + c) / 16777216))), (6, (0, ((x + y) + c))), (0, (2, ((2495 : Nat) : Int))), (1, (0, a)), (2, (0, b)), (3, (0, l))] _ _
          refine hd_goto pkX14_addPlain rfl ?_
          have hp : 0 ≤ 70 * a := by omega
          have ez : ∀ i : Int, 0 ≤ i → ga hh11 2496 i = if i = 70 * a then v10 else if i = 70 * a + k then (x + y + c) % 16777216 else ga h9 2496 i := fun i hi => by
            subst ehh11 ehh7
            rw [ga_sa _ _ _ (by omega) hi, ga_sa _ _ _ (by omega) hi]
          have st := add_step (Z := ga h9 2496) (Z' := ga hh11 2496) (Z0 := ga h 2496) (by decide) ha k1 (by omega) i6 i7 (px.trans qa.1) (py.trans qb.1) (by rw [ez _ (by omega), if_neg (by omega), if_pos rfl]) (fun i p q r => by rw [ez i p, if_neg r, if_neg q])
          refine m_sub [(0, (2, ((2495 : Nat) : Int))), (1, (0, a)), (2, (0, b)), (3, (0, l)), (4, (0, (((x + y) + c) / 16777216))), (5, (0, (k + 1)))] (List.forall_mem_cons.mpr ⟨rfl, List.forall_mem_cons.mpr ⟨rfl, List.forall_mem_cons.mpr ⟨rfl, List.forall_mem_cons.mpr ⟨rfl, List.forall_mem_cons.mpr ⟨rfl, List.forall_mem_cons.mpr ⟨rfl, fun _ h => absurd h List.not_mem_nil⟩⟩⟩⟩⟩⟩) ?_
          refine ih  ((((x + y) + c) / 16777216)) ((k + 1)) hh11 ghh11 ?_ ?_ ?_ ?_ ?_ ?_ ?_ ?_ ?_ ?_ ?_
          · subst ehh11 ehh7
            exact (io.set (by decide)).set (by decide)
          · omega
          · omega
          · omega
          · intro i p q
            rw [ez i p, if_neg (by omega), if_neg (by omega)]
            exact i4 i p (by omega)
          · rw [ez _ (by omega), if_pos rfl]
            have w := ez (70 * a) (by omega)
            omega
          · have e : k + 1 - 1 = k := by omega
            rw [e]
            exact st.1
          · have e : k + 1 - 1 = k := by omega
            rw [e]
            exact st.2
          · intro q
            have e1 : lb (ga h 2496) 70 a k = 0 := by unfold lb; exact if_neg (by omega)
            have e2 : lb (ga h 2496) 70 b k = 0 := by unfold lb; exact if_neg (by omega)
            omega
          · subst ehh11 ehh7
            intro j
            rw [ga_ne _ _ _ _ (by decide), ga_ne _ _ _ _ (by decide)]
            exact i9 j
          · omega
        · skip
          refine hd_iload pkX14_addPlain rfl rfl ?_
          refine hd_goto pkX14_addPlain rfl ?_
          refine hd_iast (n := 48300) pkX14_addPlain rfl (ghh7.cell 1 rfl) (by decide) (by omega) (by omega) (fun hh12 ehh12 => ?_)
          have ghh12 : Str t14 r14 hh12 := by rw [ehh12]; exact ghh7.setA rfl
          refine hd_iinc (z := 1) pkX14_addPlain rfl rfl (by omega) rfl ?_
          change MW _ _ _ _ _ [(5, (0, (k + 1))), (4, (0, (((x + y) + c) / 16777216))), (6, (0, ((x + y) + c))), (0, (2, ((2495 : Nat) : Int))), (1, (0, a)), (2, (0, b)), (3, (0, l))] _ _
          refine hd_goto pkX14_addPlain rfl ?_
          have hp : 0 ≤ 70 * a := by omega
          have ez : ∀ i : Int, 0 ≤ i → ga hh12 2496 i = if i = 70 * a then k else if i = 70 * a + k then (x + y + c) % 16777216 else ga h9 2496 i := fun i hi => by
            subst ehh12 ehh7
            rw [ga_sa _ _ _ (by omega) hi, ga_sa _ _ _ (by omega) hi]
          have st := add_step (Z := ga h9 2496) (Z' := ga hh12 2496) (Z0 := ga h 2496) (by decide) ha k1 (by omega) i6 i7 (px.trans qa.1) (py.trans qb.1) (by rw [ez _ (by omega), if_neg (by omega), if_pos rfl]) (fun i p q r => by rw [ez i p, if_neg r, if_neg q])
          refine m_sub [(0, (2, ((2495 : Nat) : Int))), (1, (0, a)), (2, (0, b)), (3, (0, l)), (4, (0, (((x + y) + c) / 16777216))), (5, (0, (k + 1)))] (List.forall_mem_cons.mpr ⟨rfl, List.forall_mem_cons.mpr ⟨rfl, List.forall_mem_cons.mpr ⟨rfl, List.forall_mem_cons.mpr ⟨rfl, List.forall_mem_cons.mpr ⟨rfl, List.forall_mem_cons.mpr ⟨rfl, fun _ h => absurd h List.not_mem_nil⟩⟩⟩⟩⟩⟩) ?_
          refine ih  ((((x + y) + c) / 16777216)) ((k + 1)) hh12 ghh12 ?_ ?_ ?_ ?_ ?_ ?_ ?_ ?_ ?_ ?_ ?_
          · subst ehh12 ehh7
            exact (io.set (by decide)).set (by decide)
          · omega
          · omega
          · omega
          · intro i p q
            rw [ez i p, if_neg (by omega), if_neg (by omega)]
            exact i4 i p (by omega)
          · rw [ez _ (by omega), if_pos rfl]
            have w := ez (70 * a) (by omega)
            omega
          · have e : k + 1 - 1 = k := by omega
            rw [e]
            exact st.1
          · have e : k + 1 - 1 = k := by omega
            rw [e]
            exact st.2
          · intro q
            have e1 : lb (ga h 2496) 70 a k = 0 := by unfold lb; exact if_neg (by omega)
            have e2 : lb (ga h 2496) 70 b k = 0 := by unfold lb; exact if_neg (by omega)
            omega
          · subst ehh12 ehh7
            intro j
            rw [ga_ne _ _ _ _ (by decide), ga_ne _ _ _ _ (by decide)]
            exact i9 j
          · omega
  refine m_sub [(0, (2, ((2495 : Nat) : Int))), (1, (0, a)), (2, (0, b)), (3, (0, l)), (4, (0, 0)), (5, (0, 1))] (List.forall_mem_cons.mpr ⟨rfl, List.forall_mem_cons.mpr ⟨rfl, List.forall_mem_cons.mpr ⟨rfl, List.forall_mem_cons.mpr ⟨rfl, List.forall_mem_cons.mpr ⟨rfl, List.forall_mem_cons.mpr ⟨rfl, fun _ h => absurd h List.not_mem_nil⟩⟩⟩⟩⟩⟩) ?_
  refine lp9 ((l + 2 - (1)) + 1).toNat (0) (1) h g ?_ ?_ ?_ ?_ ?_ ?_ ?_ ?_ ?_ ?_ ?_
  · exact Only.refl _ _
  · omega
  · omega
  · omega
  · exact fun _ _ _ => rfl
  · refine ⟨fun q => ?_, fun _ => rfl⟩
    show sz (ga h 2496) 70 a = _
    omega
  · intro j p q
    omega
  · rfl
  · omega
  · exact fun _ => rfl
  · omega
set_option maxRecDepth 20000 in
theorem h_X14_takePlain {h : MH} {a b : Int} (ha : 0 ≤ a) (ha2 : a < 690) (hb : 0 ≤ b) (hb2 : b < 690) (A : Num (ga h 2496) 70 a) (B : Num (ga h 2496) 70 b) (hv : vl (ga h 2496) 70 b ≤ vl (ga h 2496) 70 a) (g : Str t14 r14 h) : MCal KX14_takePlain yX14_takePlain 0 0 [(2, ((2495 : Nat) : Int)), (0, a), (0, b)] h (mRV fun h' => Ch 70 2496 2497 [a] h h' ∧ Num (ga h' 2496) 70 a ∧ vl (ga h' 2496) 70 a = vl (ga h 2496) 70 a - vl (ga h 2496) 70 b ∧ sz (ga h' 2496) 70 a ≤ sz (ga h 2496) 70 a ∧ ga h' 2497 a = (if sz (ga h' 2496) 70 a = 0 then 0 else ga h 2497 a)) := by
  refine MCal.ofMW (Or.inl rfl) ⟨cp_X14, rfl⟩ (Nat.le_of_ble_eq_true rfl) ?_
  generalize eQ : (mRV fun h' => Ch 70 2496 2497 [a] h h' ∧ Num (ga h' 2496) 70 a ∧ vl (ga h' 2496) 70 a = vl (ga h 2496) 70 a - vl (ga h 2496) 70 b ∧ sz (ga h' 2496) 70 a ≤ sz (ga h 2496) 70 a ∧ ga h' 2497 a = (if sz (ga h' 2496) 70 a = 0 then 0 else ga h 2497 a) : MO → MH → Prop) = Q
  change MW KX14_takePlain Q 0 0 (pcA pgX14_takePlain 0) [(0, (2, ((2495 : Nat) : Int))), (1, (0, a)), (2, (0, b))] [] h
  refine hd_locI (i := 1) rfl (fun ra => ?_)
  refine hd_locI (i := 2) rfl (fun rb => ?_)
  have A1 := A.1
  have A2 := A.2.1
  have B1 := B.1
  have B2 := B.2.1
  have az : sz (ga h 2496) 70 a = ga h 2496 (70 * a) := rfl
  refine hd_ipush (z := 0) pkX14_takePlain rfl ?_
  refine hd_istore pkX14_takePlain rfl rfl ?_
  change MW _ _ _ _ _ [(3, (0, 0)), (0, (2, ((2495 : Nat) : Int))), (1, (0, a)), (2, (0, b))] _ _
  refine hd_aload pkX14_takePlain rfl rfl (Int.natCast_nonneg _) ?_
  refine hd_getR (n := 2496) pkX14_takePlain rfl (g.cell 0 rfl).1 (g.cell 0 rfl).2.1 (g.ref 0 rfl) ?_
  refine hd_ipush (z := 70) pkX14_takePlain rfl ?_
  refine hd_iload pkX14_takePlain rfl rfl ?_
  refine hd_imul pkX14_takePlain rfl (by omega) ?_
  refine hd_iald (n := 48300) pkX14_takePlain rfl (g.cell 1 rfl) (by omega) (by omega) (fun v1 ev1 rv1 => ?_)
  refine hd_istore pkX14_takePlain rfl rfl ?_
  change MW _ _ _ _ _ [(4, (0, v1)), (3, (0, 0)), (0, (2, ((2495 : Nat) : Int))), (1, (0, a)), (2, (0, b))] _ _
  refine hd_ipush (z := 1) pkX14_takePlain rfl ?_
  refine hd_istore pkX14_takePlain rfl rfl ?_
  change MW _ _ _ _ _ [(5, (0, 1)), (4, (0, v1)), (3, (0, 0)), (0, (2, ((2495 : Nat) : Int))), (1, (0, a)), (2, (0, b))] _ _
  have lp11 : ∀ (N : Nat) (c k : Int) (h9 : MH), Str t14 r14 h9 → (Only [2496, 2497] h h9) → (1 ≤ k) → (k ≤ v1 + 1) → (0 ≤ c ∧ c ≤ 1) → (∀ i : Int, 0 ≤ i → ¬ (70 * a + 1 ≤ i ∧ i < 70 * a + k) → ga h9 2496 i = ga h 2496 i) → (Dg (ga h9 2496) 70 a (k - 1)) → (bl (lm (ga h9 2496) 70 a) (k - 1).toNat + bl (lb (ga h 2496) 70 b) (k - 1).toNat = bl (lb (ga h 2496) 70 a) (k - 1).toNat + c * PW (k - 1).toNat) → (∀ j : Int, ga h9 2497 j = ga h 2497 j) → v1 + 1 - k < (N : Int) → MW KX14_takePlain Q 0 0 (pcA pgX14_takePlain 11) [(0, (2, ((2495 : Nat) : Int))), (1, (0, a)), (2, (0, b)), (3, (0, c)), (4, (0, v1)), (5, (0, k))] [] h9 := by
    intro N
    induction N with
    | zero => intro c k h9 g11 io k1 k2 c1 i4 i6 i7 i9 hm; exfalso; omega
    | succ N ih =>
      intro c k h9 g11 io k1 k2 c1 i4 i6 i7 i9 hm
      have sa1 : sz (ga h 2496) 70 a = v1 := by show ga h 2496 (70 * a) = v1; omega
      refine hd_iload pkX14_takePlain rfl rfl ?_
      refine hd_iload pkX14_takePlain rfl rfl ?_
      refine hd_ic_gt pkX14_takePlain rfl (fun c2 => ?_) (fun c2 => ?_)
      · skip
        refine hd_aload pkX14_takePlain rfl rfl (Int.natCast_nonneg _) ?_
        refine hd_iload pkX14_takePlain rfl rfl ?_
        refine hd_iload pkX14_takePlain rfl rfl ?_
        have hd9 : Dg (ga h9 2496) 70 a v1 := by
          have e : v1 = k - 1 := by omega
          rw [e]
          exact i6
        refine hd_callV pkX14_takePlain rfl (q := (KX14_trim, yX14_trim, 14, 2, 0)) rfl rfl rfl (As := [(0, a), (0, v1)]) (rest := []) (c := 2495) rfl rfl (Nat.le_of_ble_eq_true rfl) (g11.cell 0 rfl).1 (g11.cell 0 rfl).2.1 (h_X14_trim ha ha2 (by omega) (by omega) hd9 g11) (hd_bV (fun hc3 pt => ?_))
        have ghc3 : Str t14 r14 hc3 := g11.only pt.1.1 (by decide)
        refine hd_vret pkX14_takePlain rfl ?_
        subst eQ
        have e1 : (k - 1).toNat = v1.toNat := by omega
        have sb1 : sz (ga h 2496) 70 b ≤ v1 := by
          have := vl_lt A (m := v1.toNat) (by omega)
          have := sz_le B (m := v1.toNat) (by omega)
          omega
        have e2 := vl_lb A (m := v1.toNat) (by omega)
        have e3 := vl_lb B (m := v1.toNat) (by omega)
        have r6 := (bl_rng (f := lm (ga h9 2496) 70 a) v1.toNat (fun j p q => i6 j p (by omega))).2
        rw [e1, ← e2, ← e3] at i7
        have e4 := sub_end i7 c1 r6 hv
        refine ⟨rfl, ⟨Only.trans io pt.1.1, fun i p q => ?_, fun j p q => ?_⟩, pt.2.1, ?_, by have := pt.2.2.2.1; omega, ?_⟩
        · rw [pt.1.2.1 i p q]
          have := q a List.mem_cons_self
          exact i4 i p (by omega)
        · rw [pt.1.2.2 j p q]
          exact i9 j
        · rw [pt.2.2.1, e4]
        · rw [pt.2.2.2.2, i9 a]
      · skip
        have kW : k < 70 := by omega
        have qa := sub_lb (Z := ga h9 2496) (Z0 := ga h 2496) (by decide) ha ha k1 kW i4
        have qb := sub_lb (Z := ga h9 2496) (Z0 := ga h 2496) (by decide) ha hb k1 kW i4
        have ra9 := lb_rng A (j := k) k1
        have rb9 := lb_rng B (j := k) k1
        refine hd_aload pkX14_takePlain rfl rfl (Int.natCast_nonneg _) ?_
        refine hd_iload pkX14_takePlain rfl rfl ?_
        refine hd_iload pkX14_takePlain rfl rfl ?_
        refine hd_callV pkX14_takePlain rfl (q := (KX14_limb, yX14_limb, 14, 2, 0)) rfl rfl rfl (As := [(0, a), (0, k)]) (rest := []) (c := 2495) rfl rfl (Nat.le_of_ble_eq_true rfl) (g11.cell 0 rfl).1 (g11.cell 0 rfl).2.1 (h_X14_limb ha ha2 (by omega) (by omega) k1 g11) (hd_bI (fun x hc4 px => ?_))
        obtain ⟨px, ehc4⟩ := px
        replace ehc4 := ehc4.symm
        subst ehc4
        refine hd_aload pkX14_takePlain rfl rfl (Int.natCast_nonneg _) ?_
        refine hd_iload pkX14_takePlain rfl rfl ?_
        refine hd_iload pkX14_takePlain rfl rfl ?_
        refine hd_callV pkX14_takePlain rfl (q := (KX14_limb, yX14_limb, 14, 2, 0)) rfl rfl rfl (As := [(0, b), (0, k)]) (rest := [(0, x)]) (c := 2495) rfl rfl (Nat.le_of_ble_eq_true rfl) (g11.cell 0 rfl).1 (g11.cell 0 rfl).2.1 (h_X14_limb hb hb2 (by omega) (by omega) k1 g11) (hd_bI (fun y hc5 py => ?_))
        obtain ⟨py, ehc5⟩ := py
        replace ehc5 := ehc5.symm
        subst ehc5
        refine hd_isub pkX14_takePlain rfl (by omega) ?_
        refine hd_iload pkX14_takePlain rfl rfl ?_
        refine hd_isub pkX14_takePlain rfl (by omega) ?_
        refine hd_istore pkX14_takePlain rfl rfl ?_
        change MW _ _ _ _ _ [(6, (0, ((x - y) - c))), (0, (2, ((2495 : Nat) : Int))), (1, (0, a)), (2, (0, b)), (3, (0, c)), (4, (0, v1)), (5, (0, k))] _ _
        refine hd_iload pkX14_takePlain rfl rfl ?_
        refine hd_if_ge pkX14_takePlain rfl (fun c6 => ?_) (fun c6 => ?_)
        · skip
          refine hd_ipush (z := 0) pkX14_takePlain rfl ?_
          refine hd_istore pkX14_takePlain rfl rfl ?_
          change MW _ _ _ _ _ [(3, (0, 0)), (6, (0, ((x - y) - c))), (0, (2, ((2495 : Nat) : Int))), (1, (0, a)), (2, (0, b)), (4, (0, v1)), (5, (0, k))] _ _
          refine hd_aload pkX14_takePlain rfl rfl (Int.natCast_nonneg _) ?_
          refine hd_getR (n := 2496) pkX14_takePlain rfl (g11.cell 0 rfl).1 (g11.cell 0 rfl).2.1 (g11.ref 0 rfl) ?_
          refine hd_ipush (z := 70) pkX14_takePlain rfl ?_
          refine hd_iload pkX14_takePlain rfl rfl ?_
          refine hd_imul pkX14_takePlain rfl (by omega) ?_
          refine hd_iload pkX14_takePlain rfl rfl ?_
          refine hd_iadd pkX14_takePlain rfl (by omega) ?_
          refine hd_iload pkX14_takePlain rfl rfl ?_
          refine hd_ipush (z := 16777215) pkX14_takePlain rfl ?_
          refine hd_iand (v := (((x - y) - c) % 16777216)) pkX14_takePlain rfl (by exact h_and32 _) ?_
          refine hd_iast (n := 48300) pkX14_takePlain rfl (g11.cell 1 rfl) (by decide) (by omega) (by omega) (fun hh7 ehh7 => ?_)
          have ghh7 : Str t14 r14 hh7 := by rw [ehh7]; exact g11.setA rfl
          refine hd_iinc (z := 1) pkX14_takePlain rfl rfl (by omega) rfl ?_
          change MW _ _ _ _ _ [(5, (0, (k + 1))), (3, (0, 0)), (6, (0, ((x - y) - c))), (0, (2, ((2495 : Nat) : Int))), (1, (0, a)), (2, (0, b)), (4, (0, v1))] _ _
          refine hd_goto pkX14_takePlain rfl ?_
          have ez : ∀ i : Int, 0 ≤ i → ga hh7 2496 i = if i = 70 * a + k then (x - y - c) % 16777216 else ga h9 2496 i := fun i hi => by
            subst ehh7
            rw [ga_sa _ _ _ (by omega) hi]
          have st := sub_step (Z := ga h9 2496) (Z' := ga hh7 2496) (Z0 := ga h 2496) (c' := 0) (by decide) ha k1 kW i6 i7 (px.trans qa.1) (py.trans qb.1) (by omega) (by omega) c1 (by split <;> omega) (by rw [ez _ (by omega), if_pos rfl]) (fun i p q => by rw [ez i p, if_neg q])
          refine m_sub [(0, (2, ((2495 : Nat) : Int))), (1, (0, a)), (2, (0, b)), (3, (0, 0)), (4, (0, v1)), (5, (0, (k + 1)))] (List.forall_mem_cons.mpr ⟨rfl, List.forall_mem_cons.mpr ⟨rfl, List.forall_mem_cons.mpr ⟨rfl, List.forall_mem_cons.mpr ⟨rfl, List.forall_mem_cons.mpr ⟨rfl, List.forall_mem_cons.mpr ⟨rfl, fun _ h => absurd h List.not_mem_nil⟩⟩⟩⟩⟩⟩) ?_
          refine ih  (0) ((k + 1)) hh7 ghh7 ?_ ?_ ?_ ?_ ?_ ?_ ?_ ?_ ?_
          · subst ehh7
            exact io.set (by decide)
          · omega
          · omega
          · omega
          · intro i p q
            rw [ez i p, if_neg (by omega)]
            exact i4 i p (by omega)
          · have e : k + 1 - 1 = k := by omega
            rw [e]
            exact st.1
          · have e : k + 1 - 1 = k := by omega
            rw [e]
            exact st.2
          · subst ehh7
            intro j
            rw [ga_ne _ _ _ _ (by decide)]
            exact i9 j
          · omega
        · skip
          refine hd_ipush (z := 1) pkX14_takePlain rfl ?_
          refine hd_goto pkX14_takePlain rfl ?_
          refine hd_istore pkX14_takePlain rfl rfl ?_
          change MW _ _ _ _ _ [(3, (0, 1)), (6, (0, ((x - y) - c))), (0, (2, ((2495 : Nat) : Int))), (1, (0, a)), (2, (0, b)), (4, (0, v1)), (5, (0, k))] _ _
          refine hd_aload pkX14_takePlain rfl rfl (Int.natCast_nonneg _) ?_
          refine hd_getR (n := 2496) pkX14_takePlain rfl (g11.cell 0 rfl).1 (g11.cell 0 rfl).2.1 (g11.ref 0 rfl) ?_
          refine hd_ipush (z := 70) pkX14_takePlain rfl ?_
          refine hd_iload pkX14_takePlain rfl rfl ?_
          refine hd_imul pkX14_takePlain rfl (by omega) ?_
          refine hd_iload pkX14_takePlain rfl rfl ?_
          refine hd_iadd pkX14_takePlain rfl (by omega) ?_
          refine hd_iload pkX14_takePlain rfl rfl ?_
          refine hd_ipush (z := 16777215) pkX14_takePlain rfl ?_
          refine hd_iand (v := (((x - y) - c) % 16777216)) pkX14_takePlain rfl (by exact h_and32 _) ?_
          refine hd_iast (n := 48300) pkX14_takePlain rfl (g11.cell 1 rfl) (by decide) (by omega) (by omega) (fun hh8 ehh8 => ?_)
          have ghh8 : Str t14 r14 hh8 := by rw [ehh8]; exact g11.setA rfl
          refine hd_iinc (z := 1) pkX14_takePlain rfl rfl (by omega) rfl ?_
          change MW _ _ _ _ _ [(5, (0, (k + 1))), (3, (0, 1)), (6, (0, ((x - y) - c))), (0, (2, ((2495 : Nat) : Int))), (1, (0, a)), (2, (0, b)), (4, (0, v1))] _ _
          refine hd_goto pkX14_takePlain rfl ?_
          have ez : ∀ i : Int, 0 ≤ i → ga hh8 2496 i = if i = 70 * a + k then (x - y - c) % 16777216 else ga h9 2496 i := fun i hi => by
            subst ehh8
            rw [ga_sa _ _ _ (by omega) hi]
          have st := sub_step (Z := ga h9 2496) (Z' := ga hh8 2496) (Z0 := ga h 2496) (c' := 1) (by decide) ha k1 kW i6 i7 (px.trans qa.1) (py.trans qb.1) (by omega) (by omega) c1 (by split <;> omega) (by rw [ez _ (by omega), if_pos rfl]) (fun i p q => by rw [ez i p, if_neg q])
          refine m_sub [(0, (2, ((2495 : Nat) : Int))), (1, (0, a)), (2, (0, b)), (3, (0, 1)), (4, (0, v1)), (5, (0, (k + 1)))] (List.forall_mem_cons.mpr ⟨rfl, List.forall_mem_cons.mpr ⟨rfl, List.forall_mem_cons.mpr ⟨rfl, List.forall_mem_cons.mpr ⟨rfl, List.forall_mem_cons.mpr ⟨rfl, List.forall_mem_cons.mpr ⟨rfl, fun _ h => absurd h List.not_mem_nil⟩⟩⟩⟩⟩⟩) ?_
          refine ih  (1) ((k + 1)) hh8 ghh8 ?_ ?_ ?_ ?_ ?_ ?_ ?_ ?_ ?_
          · subst ehh8
            exact io.set (by decide)
          · omega
          · omega
          · omega
          · intro i p q
            rw [ez i p, if_neg (by omega)]
            exact i4 i p (by omega)
          · have e : k + 1 - 1 = k := by omega
            rw [e]
            exact st.1
          · have e : k + 1 - 1 = k := by omega
            rw [e]
            exact st.2
          · subst ehh8
            intro j
            rw [ga_ne _ _ _ _ (by decide)]
            exact i9 j
          · omega
  refine m_sub [(0, (2, ((2495 : Nat) : Int))), (1, (0, a)), (2, (0, b)), (3, (0, 0)), (4, (0, v1)), (5, (0, 1))] (List.forall_mem_cons.mpr ⟨rfl, List.forall_mem_cons.mpr ⟨rfl, List.forall_mem_cons.mpr ⟨rfl, List.forall_mem_cons.mpr ⟨rfl, List.forall_mem_cons.mpr ⟨rfl, List.forall_mem_cons.mpr ⟨rfl, fun _ h => absurd h List.not_mem_nil⟩⟩⟩⟩⟩⟩) ?_
  refine lp11 ((v1 + 1 - (1)) + 1).toNat (0) (1) h g ?_ ?_ ?_ ?_ ?_ ?_ ?_ ?_ ?_
  · exact Only.refl _ _
  · omega
  · have sa1 : sz (ga h 2496) 70 a = v1 := by show ga h 2496 (70 * a) = v1; omega
    omega
  · omega
  · exact fun _ _ _ => rfl
  · intro j p q
    omega
  · rfl
  · exact fun _ => rfl
  · omega
set_option maxRecDepth 20000 in
theorem h_X14_halve {h : MH} {a : Int} (ha : 0 ≤ a) (ha2 : a < 690) (A : Num (ga h 2496) 70 a) (g : Str t14 r14 h) : MCal KX14_halve yX14_halve 0 0 [(2, ((2495 : Nat) : Int)), (0, a)] h (mRV fun h' => Ch 70 2496 2497 [a] h h' ∧ Num (ga h' 2496) 70 a ∧ vl (ga h' 2496) 70 a = vl (ga h 2496) 70 a / 2 ∧ sz (ga h' 2496) 70 a ≤ sz (ga h 2496) 70 a ∧ ga h' 2497 a = (if sz (ga h' 2496) 70 a = 0 then 0 else ga h 2497 a)) := by
  refine MCal.ofMW (Or.inl rfl) ⟨cp_X14, rfl⟩ (Nat.le_of_ble_eq_true rfl) ?_
  generalize eQ : (mRV fun h' => Ch 70 2496 2497 [a] h h' ∧ Num (ga h' 2496) 70 a ∧ vl (ga h' 2496) 70 a = vl (ga h 2496) 70 a / 2 ∧ sz (ga h' 2496) 70 a ≤ sz (ga h 2496) 70 a ∧ ga h' 2497 a = (if sz (ga h' 2496) 70 a = 0 then 0 else ga h 2497 a) : MO → MH → Prop) = Q
  change MW KX14_halve Q 0 0 (pcA pgX14_halve 0) [(0, (2, ((2495 : Nat) : Int))), (1, (0, a))] [] h
  refine hd_locI (i := 1) rfl (fun ra => ?_)
  have A1 := A.1
  have A2 := A.2.1
  have az : sz (ga h 2496) 70 a = ga h 2496 (70 * a) := rfl
  refine hd_aload pkX14_halve rfl rfl (Int.natCast_nonneg _) ?_
  refine hd_getR (n := 2496) pkX14_halve rfl (g.cell 0 rfl).1 (g.cell 0 rfl).2.1 (g.ref 0 rfl) ?_
  refine hd_ipush (z := 70) pkX14_halve rfl ?_
  refine hd_iload pkX14_halve rfl rfl ?_
  refine hd_imul pkX14_halve rfl (by omega) ?_
  refine hd_iald (n := 48300) pkX14_halve rfl (g.cell 1 rfl) (by omega) (by omega) (fun v1 ev1 rv1 => ?_)
  refine hd_istore pkX14_halve rfl rfl ?_
  change MW _ _ _ _ _ [(2, (0, v1)), (0, (2, ((2495 : Nat) : Int))), (1, (0, a))] _ _
  refine hd_ipush (z := 1) pkX14_halve rfl ?_
  refine hd_istore pkX14_halve rfl rfl ?_
  change MW _ _ _ _ _ [(3, (0, 1)), (2, (0, v1)), (0, (2, ((2495 : Nat) : Int))), (1, (0, a))] _ _
  have lp9 : ∀ (N : Nat) (k : Int) (h9 : MH), Str t14 r14 h9 → (Only [2496, 2497] h h9) → (1 ≤ k) → (k ≤ v1 + 1) → (∀ i : Int, 0 ≤ i → ¬ (70 * a + 1 ≤ i ∧ i < 70 * a + k) → ga h9 2496 i = ga h 2496 i) → (Dg (ga h9 2496) 70 a (k - 1)) → (2 * bl (lm (ga h9 2496) 70 a) (k - 1).toNat + lb (ga h 2496) 70 a 1 % 2 = bl (lm (ga h 2496) 70 a) (k - 1).toNat + lb (ga h 2496) 70 a k % 2 * PW (k - 1).toNat) → (∀ j : Int, ga h9 2497 j = ga h 2497 j) → v1 + 1 - k < (N : Int) → MW KX14_halve Q 0 0 (pcA pgX14_halve 9) [(0, (2, ((2495 : Nat) : Int))), (1, (0, a)), (2, (0, v1)), (3, (0, k))] [] h9 := by
    intro N
    induction N with
    | zero => intro k h9 g9 io k1 k2 i4 i6 i7 i9 hm; exfalso; omega
    | succ N ih =>
      intro k h9 g9 io k1 k2 i4 i6 i7 i9 hm
      have sa1 : sz (ga h 2496) 70 a = v1 := by omega
      refine hd_iload pkX14_halve rfl rfl ?_
      refine hd_iload pkX14_halve rfl rfl ?_
      refine hd_ic_gt pkX14_halve rfl (fun c2 => ?_) (fun c2 => ?_)
      · skip
        refine hd_aload pkX14_halve rfl rfl (Int.natCast_nonneg _) ?_
        refine hd_iload pkX14_halve rfl rfl ?_
        refine hd_iload pkX14_halve rfl rfl ?_
        have hd9 : Dg (ga h9 2496) 70 a v1 := by
          have e : v1 = k - 1 := by omega
          rw [e]
          exact i6
        refine hd_callV pkX14_halve rfl (q := (KX14_trim, yX14_trim, 14, 2, 0)) rfl rfl rfl (As := [(0, a), (0, v1)]) (rest := []) (c := 2495) rfl rfl (Nat.le_of_ble_eq_true rfl) (g9.cell 0 rfl).1 (g9.cell 0 rfl).2.1 (h_X14_trim ha ha2 (by omega) (by omega) hd9 g9) (hd_bV (fun hc3 pt => ?_))
        have ghc3 : Str t14 r14 hc3 := g9.only pt.1.1 (by decide)
        refine hd_vret pkX14_halve rfl ?_
        subst eQ
        have e1 : (k - 1).toNat = v1.toNat := by omega
        have e5 : k = v1 + 1 := by omega
        have e6 : lb (ga h 2496) 70 a k = 0 := by
          unfold lb
          rw [if_neg (by omega)]
        have sa2 : (sz (ga h 2496) 70 a).toNat = v1.toNat := by omega
        rw [e1, e6] at i7
        have e4 : 2 * bl (lm (ga h9 2496) 70 a) v1.toNat + lb (ga h 2496) 70 a 1 % 2 = vl (ga h 2496) 70 a := by
          unfold vl
          rw [sa2, i7]
          show _ + 0 * _ = _
          rw [Int.zero_mul, Int.add_zero]
        refine ⟨rfl, ⟨Only.trans io pt.1.1, fun i p q => ?_, fun j p q => ?_⟩, pt.2.1, ?_, by have := pt.2.2.2.1; omega, ?_⟩
        · rw [pt.1.2.1 i p q]
          have := q a List.mem_cons_self
          exact i4 i p (by omega)
        · rw [pt.1.2.2 j p q]
          exact i9 j
        · rw [pt.2.2.1]
          omega
        · rw [pt.2.2.2.2, i9 a]
      · skip
        have kW : k < 70 := by omega
        have qa := sub_lb (Z := ga h9 2496) (Z0 := ga h 2496) (by decide) ha ha k1 kW i4
        have qn : ga h9 2496 (70 * a + k + 1) = ga h 2496 (70 * a + k + 1) := i4 _ (by omega) (by omega)
        have qk : ga h9 2496 (70 * a + k) = lm (ga h 2496) 70 a k := qa.2.2
        have ln : k < v1 → lb (ga h 2496) 70 a (k + 1) = ga h 2496 (70 * a + k + 1) := fun q => by
          unfold lb lm
          rw [if_pos (by omega), Int.add_assoc]
        have lz : ¬ k < v1 → lb (ga h 2496) 70 a (k + 1) = 0 := fun q => by
          unfold lb
          rw [if_neg (by omega)]
        have rl := lb_rng A (j := k + 1) (by omega)
        refine hd_aload pkX14_halve rfl rfl (Int.natCast_nonneg _) ?_
        refine hd_getR (n := 2496) pkX14_halve rfl (g9.cell 0 rfl).1 (g9.cell 0 rfl).2.1 (g9.ref 0 rfl) ?_
        refine hd_ipush (z := 70) pkX14_halve rfl ?_
        refine hd_iload pkX14_halve rfl rfl ?_
        refine hd_imul pkX14_halve rfl (by omega) ?_
        refine hd_iload pkX14_halve rfl rfl ?_
        refine hd_iadd pkX14_halve rfl (by omega) ?_
        refine hd_aload pkX14_halve rfl rfl (Int.natCast_nonneg _) ?_
        refine hd_getR (n := 2496) pkX14_halve rfl (g9.cell 0 rfl).1 (g9.cell 0 rfl).2.1 (g9.ref 0 rfl) ?_
        refine hd_ipush (z := 70) pkX14_halve rfl ?_
        refine hd_iload pkX14_halve rfl rfl ?_
        refine hd_imul pkX14_halve rfl (by omega) ?_
        refine hd_iload pkX14_halve rfl rfl ?_
        refine hd_iadd pkX14_halve rfl (by omega) ?_
        refine hd_iald (n := 48300) pkX14_halve rfl (g9.cell 1 rfl) (by omega) (by omega) (fun v4 ev4 rv4 => ?_)
        refine hd_ipush (z := 1) pkX14_halve rfl ?_
        refine hd_ishr (v := (v4 / 2)) pkX14_halve rfl (by exact h_shr1 (by omega)) ?_
        refine hd_iload pkX14_halve rfl rfl ?_
        refine hd_iload pkX14_halve rfl rfl ?_
        refine hd_ic_ge pkX14_halve rfl (fun c5 => ?_) (fun c5 => ?_)
        · skip
          refine hd_ipush (z := 0) pkX14_halve rfl ?_
          refine hd_ipush (z := 23) pkX14_halve rfl ?_
          refine hd_ishl (v := (0 * 8388608)) pkX14_halve rfl (by exact h_shl23 (by omega) (by omega)) ?_
          refine hd_iadd pkX14_halve rfl (by omega) ?_
          refine hd_iast (n := 48300) pkX14_halve rfl (g9.cell 1 rfl) (by decide) (by omega) (by omega) (fun hh6 ehh6 => ?_)
          have ghh6 : Str t14 r14 hh6 := by rw [ehh6]; exact g9.setA rfl
          refine hd_iinc (z := 1) pkX14_halve rfl rfl (by omega) rfl ?_
          change MW _ _ _ _ _ [(3, (0, (k + 1))), (0, (2, ((2495 : Nat) : Int))), (1, (0, a)), (2, (0, v1))] _ _
          refine hd_goto pkX14_halve rfl ?_
          have ez : ∀ i : Int, 0 ≤ i → ga hh6 2496 i = if i = 70 * a + k then ((v4 / 2) + (0 * 8388608)) else ga h9 2496 i := fun i hi => by
            subst ehh6
            rw [ga_sa _ _ _ (by omega) hi]
          have st := half_step (Z := ga h9 2496) (Z' := ga hh6 2496) (Z0 := ga h 2496) (y := lb (ga h 2496) 70 a (k + 1) % 2) (by decide) ha k1 kW (A.2.2.1 k k1 (by omega)) i6 i7 (by omega) rfl (by rw [ez _ (by omega), if_pos rfl]; omega) (fun i p q => by rw [ez i p, if_neg q])
          refine m_sub [(0, (2, ((2495 : Nat) : Int))), (1, (0, a)), (2, (0, v1)), (3, (0, (k + 1)))] (List.forall_mem_cons.mpr ⟨rfl, List.forall_mem_cons.mpr ⟨rfl, List.forall_mem_cons.mpr ⟨rfl, List.forall_mem_cons.mpr ⟨rfl, fun _ h => absurd h List.not_mem_nil⟩⟩⟩⟩) ?_
          refine ih  ((k + 1)) hh6 ghh6 ?_ ?_ ?_ ?_ ?_ ?_ ?_ ?_
          · subst ehh6
            exact io.set (by decide)
          · omega
          · omega
          · intro i p q
            rw [ez i p, if_neg (by omega)]
            exact i4 i p (by omega)
          · have e : k + 1 - 1 = k := by omega
            rw [e]
            exact st.1
          · have e : k + 1 - 1 = k := by omega
            rw [e]
            exact st.2
          · subst ehh6
            intro j
            rw [ga_ne _ _ _ _ (by decide)]
            exact i9 j
          · omega
        · skip
          refine hd_aload pkX14_halve rfl rfl (Int.natCast_nonneg _) ?_
          refine hd_getR (n := 2496) pkX14_halve rfl (g9.cell 0 rfl).1 (g9.cell 0 rfl).2.1 (g9.ref 0 rfl) ?_
          refine hd_ipush (z := 70) pkX14_halve rfl ?_
          refine hd_iload pkX14_halve rfl rfl ?_
          refine hd_imul pkX14_halve rfl (by omega) ?_
          refine hd_iload pkX14_halve rfl rfl ?_
          refine hd_iadd pkX14_halve rfl (by omega) ?_
          refine hd_ipush (z := 1) pkX14_halve rfl ?_
          refine hd_iadd pkX14_halve rfl (by omega) ?_
          refine hd_iald (n := 48300) pkX14_halve rfl (g9.cell 1 rfl) (by omega) (by omega) (fun v7 ev7 rv7 => ?_)
          refine hd_ipush (z := 1) pkX14_halve rfl ?_
          refine hd_iand (v := (v7 % 2)) pkX14_halve rfl (by exact h_and1 _) ?_
          refine hd_goto pkX14_halve rfl ?_
          refine hd_ipush (z := 23) pkX14_halve rfl ?_
          refine hd_ishl (v := ((v7 % 2) * 8388608)) pkX14_halve rfl (by exact h_shl23 (by omega) (by omega)) ?_
          refine hd_iadd pkX14_halve rfl (by omega) ?_
          refine hd_iast (n := 48300) pkX14_halve rfl (g9.cell 1 rfl) (by decide) (by omega) (by omega) (fun hh8 ehh8 => ?_)
          have ghh8 : Str t14 r14 hh8 := by rw [ehh8]; exact g9.setA rfl
          refine hd_iinc (z := 1) pkX14_halve rfl rfl (by omega) rfl ?_
          change MW _ _ _ _ _ [(3, (0, (k + 1))), (0, (2, ((2495 : Nat) : Int))), (1, (0, a)), (2, (0, v1))] _ _
          refine hd_goto pkX14_halve rfl ?_
          have ez : ∀ i : Int, 0 ≤ i → ga hh8 2496 i = if i = 70 * a + k then ((v4 / 2) + ((v7 % 2) * 8388608)) else ga h9 2496 i := fun i hi => by
            subst ehh8
            rw [ga_sa _ _ _ (by omega) hi]
          have st := half_step (Z := ga h9 2496) (Z' := ga hh8 2496) (Z0 := ga h 2496) (y := lb (ga h 2496) 70 a (k + 1) % 2) (by decide) ha k1 kW (A.2.2.1 k k1 (by omega)) i6 i7 (by omega) rfl (by rw [ez _ (by omega), if_pos rfl]; omega) (fun i p q => by rw [ez i p, if_neg q])
          refine m_sub [(0, (2, ((2495 : Nat) : Int))), (1, (0, a)), (2, (0, v1)), (3, (0, (k + 1)))] (List.forall_mem_cons.mpr ⟨rfl, List.forall_mem_cons.mpr ⟨rfl, List.forall_mem_cons.mpr ⟨rfl, List.forall_mem_cons.mpr ⟨rfl, fun _ h => absurd h List.not_mem_nil⟩⟩⟩⟩) ?_
          refine ih  ((k + 1)) hh8 ghh8 ?_ ?_ ?_ ?_ ?_ ?_ ?_ ?_
          · subst ehh8
            exact io.set (by decide)
          · omega
          · omega
          · intro i p q
            rw [ez i p, if_neg (by omega)]
            exact i4 i p (by omega)
          · have e : k + 1 - 1 = k := by omega
            rw [e]
            exact st.1
          · have e : k + 1 - 1 = k := by omega
            rw [e]
            exact st.2
          · subst ehh8
            intro j
            rw [ga_ne _ _ _ _ (by decide)]
            exact i9 j
          · omega
  refine m_sub [(0, (2, ((2495 : Nat) : Int))), (1, (0, a)), (2, (0, v1)), (3, (0, 1))] (List.forall_mem_cons.mpr ⟨rfl, List.forall_mem_cons.mpr ⟨rfl, List.forall_mem_cons.mpr ⟨rfl, List.forall_mem_cons.mpr ⟨rfl, fun _ h => absurd h List.not_mem_nil⟩⟩⟩⟩) ?_
  refine lp9 ((v1 + 1 - (1)) + 1).toNat (1) h g ?_ ?_ ?_ ?_ ?_ ?_ ?_ ?_
  · exact Only.refl _ _
  · omega
  · omega
  · exact fun _ _ _ => rfl
  · intro j p q
    omega
  · show 2 * 0 + _ = 0 + _ * 1
    omega
  · exact fun _ => rfl
  · omega