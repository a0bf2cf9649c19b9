/-! X1 by hand: X15: a number is written -/
theorem st_fld2 {h : MH} (st : StrZ zT h) {c : Nat} {i v : Int} (z : zRef c i.toNat = 0) (r : (zRow c).2 = 0) : StrZ zT (sa h c i v) := strz_only st ((Only.refl [c] h).set List.mem_cons_self) (fun d hd j n => by
  rw [List.mem_singleton] at hd
  subst hd
  by_cases w : j = i.toNat
  · rw [w] at n
    exact absurd z n
  · show (if d = d then ((h.2 d).1, (h.2 d).2.1, fun k => if k = i.toNat then v else (h.2 d).2.2 k) else h.2 d).2.2 j = (h.2 d).2.2 j
    rw [if_pos rfl]
    show (if j = i.toNat then v else (h.2 d).2.2 j) = _
    rw [if_neg w]) (fun d hd => by
  rw [List.mem_singleton] at hd
  subst hd
  exact r)
theorem dg10 (x : Int) : (-9 ≤ x.tmod 10 ∧ x.tmod 10 ≤ 9) ∧ (x.tdiv 10).natAbs = x.natAbs / 10 ∧ ((0 ≤ x → 0 ≤ x.tdiv 10 ∧ x.tdiv 10 ≤ x) ∧ (x ≤ 0 → x ≤ x.tdiv 10 ∧ x.tdiv 10 ≤ 0)) := by
  have a : (x.tdiv 10).natAbs = x.natAbs / 10 := Int.natAbs_tdiv x 10
  have b := Int.tmod_add_mul_tdiv x 10
  have c : (x.tmod 10).natAbs = x.natAbs % 10 := Int.natAbs_tmod x 10
  refine ⟨by omega, a, ?_⟩
  rcases Int.le_total 0 x with h | h
  · have d := Int.tdiv_eq_ediv_of_nonneg (b := 10) h
    rw [d]
    refine ⟨fun _ => by omega, fun _ => by omega⟩
  · have d : x.tdiv 10 = -((-x) / 10) := by
      rw [show x.tdiv 10 = (-(-x)).tdiv 10 by rw [Int.neg_neg], Int.neg_tdiv, Int.tdiv_eq_ediv_of_nonneg (by omega)]
    rw [d]
    refine ⟨fun _ => by omega, fun _ => by omega⟩
theorem dl10 {x y : Int} {n : Nat} (h : y.natAbs = x.natAbs / 10) (b : (x.natAbs : Int) * 10 ^ n ≤ 9223372036854775808) : (y.natAbs : Int) * 10 ^ (n + 1) ≤ 9223372036854775808 := by
  have p : (0 : Int) ≤ 10 ^ n := Int.le_of_lt (Int.pow_pos (by decide))
  have q : (y.natAbs : Int) * 10 ≤ (x.natAbs : Int) := by omega
  have r := Int.mul_le_mul_of_nonneg_right q p
  rw [Int.pow_succ, Int.mul_comm (10 ^ n), ← Int.mul_assoc]
  omega
theorem n18_of {x n : Int} (w : x ≠ 0) (b : (x.natAbs : Int) * 10 ^ n.toNat ≤ 9223372036854775808) : n ≤ 18 := by
  by_cases h : n ≤ 18
  · exact h
  · exfalso
    have a := pmono (b := 10) (by decide) (show 19 ≤ n.toNat by omega)
    have c := Int.mul_le_mul_of_nonneg_right (show (1 : Int) ≤ x.natAbs by omega) (Int.le_of_lt (show (0 : Int) < 10 ^ n.toNat from Int.pow_pos (by decide)))
    have d : (10 : Int) ^ 19 = 10000000000000000000 := by decide
    omega
set_option maxRecDepth 20000 in
set_option maxHeartbeats 8000000 in
theorem h_X15_put {h : MH} {u : Int} (w0 : 0 ≤ ga h 2595 37 ∧ ga h 2595 37 ≤ 599) (g : StrZ zT h) : MCal KX15_put yX15_put 0 0 [(2, ((2595 : Nat) : Int)), (0, u)] h (mRV fun h' => StrZ zT h' ∧ Only [2595, 2618] h h' ∧ (∀ j : Int, 0 ≤ j → j ≠ 37 → ga h' 2595 j = ga h 2595 j) ∧ ga h' 2595 37 = ga h 2595 37 + 1) := by
  refine MCal.ofMW (Or.inl rfl) ⟨cp_X15, rfl⟩ (Nat.le_of_ble_eq_true rfl) ?_
  generalize eQ : (mRV fun h' => StrZ zT h' ∧ Only [2595, 2618] h h' ∧ (∀ j : Int, 0 ≤ j → j ≠ 37 → ga h' 2595 j = ga h 2595 j) ∧ ga h' 2595 37 = ga h 2595 37 + 1 : MO → MH → Prop) = Q
  change MW KX15_put Q 0 0 (pcA pgX15_put 0) [(0, (2, ((2595 : Nat) : Int))), (1, (0, u))] [] h
  refine hd_locI (i := 1) rfl (fun ru => ?_)
  refine hd_aload pkX15_put rfl rfl (Int.natCast_nonneg _) ?_
  refine hd_getR (n := 2618) pkX15_put rfl (st_cell g (c := 2595) (k := 31) (n := 0) (by decide +kernel)).1 (st_cell g (c := 2595) (k := 31) (n := 0) (by decide +kernel)).2.1 (st_ref g (by decide +kernel)) ?_
  refine hd_aload pkX15_put rfl rfl (Int.natCast_nonneg _) ?_
  refine hd_getI pkX15_put rfl (st_cell g (c := 2595) (k := 31) (n := 0) (by decide +kernel)).1 (st_cell g (c := 2595) (k := 31) (n := 0) (by decide +kernel)).2.1 (fun v1 ev1 rv1 => ?_)
  replace ev1 : v1 = ga h 2595 37 := ev1
  refine hd_iload pkX15_put rfl rfl ?_
  refine hd_iast (n := 600) pkX15_put rfl (st_cell g (c := 2618) (k := 0) (n := 600) (by decide +kernel)) (by first | decide | (unfold fR; omega)) (by omega) (by omega) (fun hh2 ehh2 => ?_)
  have ghh2 : StrZ zT hh2 := by rw [ehh2]; exact st_arr g (by decide +kernel)
  have o1 : Only [2595, 2618] h hh2 := by rw [ehh2]; exact (Only.refl _ _).set (by decide)
  have f1 : ∀ j : Int, ga hh2 2595 j = ga h 2595 j := fun j => by rw [ehh2]; exact ga_ne _ _ _ _ (by decide) j
  obtain ⟨hA, ehA⟩ : ∃ x : MH, x = hh2 := ⟨_, rfl⟩
  rw [← ehA] at o1 f1
  refine hd_aload pkX15_put rfl rfl (Int.natCast_nonneg _) ?_
  refine hd_dup pkX15_put rfl rfl ?_
  refine hd_getI pkX15_put rfl (st_cell ghh2 (c := 2595) (k := 31) (n := 0) (by decide +kernel)).1 (st_cell ghh2 (c := 2595) (k := 31) (n := 0) (by decide +kernel)).2.1 (fun v3 ev3 rv3 => ?_)
  replace ev3 : v3 = ga hh2 2595 37 := ev3
  rw [← ehA, f1] at ev3
  refine hd_ipush (z := 1) pkX15_put rfl ?_
  refine hd_iadd pkX15_put rfl (by omega) ?_
  refine hd_putI pkX15_put rfl (st_cell ghh2 (c := 2595) (k := 31) (n := 0) (by decide +kernel)).1 (st_cell ghh2 (c := 2595) (k := 31) (n := 0) (by decide +kernel)).2.1 (fun hh4 ehh4 => ?_)
  replace ehh4 : hh4 = sa hh2 2595 37 (v3 + 1) := ehh4
  have ghh4 : StrZ zT hh4 := by rw [ehh4]; exact st_fld2 ghh2 (c := 2595) (by decide +kernel) (by decide +kernel)
  have o2 : Only [2595, 2618] h hh4 := by rw [ehh4, ← ehA]; exact o1.set (by decide)
  have f2 : ∀ j : Int, 0 ≤ j → j ≠ 37 → ga hh4 2595 j = ga h 2595 j := fun j a b => by rw [ehh4, ← ehA, ga_sa _ _ _ (by decide) a, if_neg b]; exact f1 j
  have w2 : ga hh4 2595 37 = ga h 2595 37 + 1 := by rw [ehh4, ← ehA, ga_sa _ _ _ (by decide) (by decide), if_pos rfl]; omega
  refine hd_vret pkX15_put rfl ?_
  subst eQ
  exact ⟨rfl, ghh4, o2, f2, w2⟩
set_option maxRecDepth 20000 in
set_option maxHeartbeats 8000000 in
theorem h_X15_putNumber {h : MH} {v : Int} (wb : 0 ≤ ga h 2595 37 ∧ ga h 2595 37 ≤ 579) (g : StrZ zT h) : MCal KX15_putNumber yX15_putNumber 0 0 [(2, ((2595 : Nat) : Int)), (1, v)] h (mRV fun h' => StrZ zT h' ∧ Only [2595, 2618] h h' ∧ (∀ j : Int, 0 ≤ j → j ≠ 37 → ga h' 2595 j = ga h 2595 j) ∧ (ga h 2595 37 ≤ ga h' 2595 37 ∧ ga h' 2595 37 ≤ ga h 2595 37 + 20)) := by
  refine MCal.ofMW (Or.inl rfl) ⟨cp_X15, rfl⟩ (Nat.le_of_ble_eq_true rfl) ?_
  generalize eQ : (mRV fun h' => StrZ zT h' ∧ Only [2595, 2618] h h' ∧ (∀ j : Int, 0 ≤ j → j ≠ 37 → ga h' 2595 j = ga h 2595 j) ∧ (ga h 2595 37 ≤ ga h' 2595 37 ∧ ga h' 2595 37 ≤ ga h 2595 37 + 20) : MO → MH → Prop) = Q
  change MW KX15_putNumber Q 0 0 (pcA pgX15_putNumber 0) [(0, (2, ((2595 : Nat) : Int))), (1, (1, v))] [] h
  refine hd_locL (i := 1) rfl (fun rv => ?_)
  obtain ⟨w0, ew⟩ : ∃ x : Int, ga h 2595 37 = x := ⟨_, rfl⟩
  rw [ew] at wb
  refine hd_lload pkX15_putNumber rfl rfl ?_
  refine hd_lpush (z := 0) pkX15_putNumber rfl ?_
  have cut7 : ∀ (_ : True) (hM : MH), StrZ zT hM → (Only [2595, 2618] h hM) → (∀ j : Int, 0 ≤ j → j ≠ 37 → ga hM 2595 j = ga h 2595 j) → (∃ s : Int, ga hM 2595 37 = w0 + s ∧ 0 ≤ s ∧ s ≤ 1) → MW KX15_putNumber Q 0 0 (pcA pgX15_putNumber 7) [(0, (2, ((2595 : Nat) : Int))), (1, (1, v))] [] hM := by
    intro _ hM gc7 oN fN wN
    obtain ⟨s, ws, sb⟩ := wN
    refine hd_aload pkX15_putNumber rfl rfl (Int.natCast_nonneg _) ?_
    refine hd_getI pkX15_putNumber rfl (st_cell gc7 (c := 2595) (k := 31) (n := 0) (by decide +kernel)).1 (st_cell gc7 (c := 2595) (k := 31) (n := 0) (by decide +kernel)).2.1 (fun v1 ev1 rv1 => ?_)
    replace ev1 : v1 = ga hM 2595 37 := ev1
    rw [ws] at ev1
    refine hd_istore pkX15_putNumber rfl rfl ?_
    change MW _ _ _ _ _ [(3, (0, v1)), (0, (2, ((2595 : Nat) : Int))), (1, (1, v))] _ _
    refine hd_lload pkX15_putNumber rfl rfl ?_
    refine hd_lstore pkX15_putNumber rfl rfl ?_
    change MW _ _ _ _ _ [(4, (1, v)), (3, (0, v1)), (0, (2, ((2595 : Nat) : Int))), (1, (1, v))] _ _
    refine hd_ipush (z := 1) pkX15_putNumber rfl ?_
    refine hd_istore pkX15_putNumber rfl rfl ?_
    change MW _ _ _ _ _ [(6, (0, 1)), (4, (1, v)), (3, (0, v1)), (0, (2, ((2595 : Nat) : Int))), (1, (1, v))] _ _
    have lp14 : ∀ (N14 : Nat) (lf mo n : Int) (hP : MH), StrZ zT hP → (Only [2595, 2618] h hP) → (∀ j : Int, 0 ≤ j → j ≠ 37 → ga hP 2595 j = ga h 2595 j) → (ga hP 2595 37 = w0 + s + n) → (0 ≤ n ∧ n ≤ 19) → (-9223372036854775808 ≤ lf ∧ lf ≤ 9223372036854775807) → ((lf.natAbs : Int) * 10 ^ n.toNat ≤ 9223372036854775808) → (mo = 0 ∨ (mo = 1 ∧ (n = 0 ∨ lf ≠ 0))) → (19 : Int) - n < (N14 : Int) → MW KX15_putNumber Q 0 0 (pcA pgX15_putNumber 14) [(0, (2, ((2595 : Nat) : Int))), (1, (1, v)), (3, (0, v1)), (4, (1, lf)), (6, (0, mo))] [] hP := by
      intro N14
      induction N14 with
      | zero => intro lf mo n hP g14 oP fP wP nb lr lb mb hm14; exfalso; omega
      | succ N14 ih14 =>
        intro lf mo n hP g14 oP fP wP nb lr lb mb hm14
        refine hd_iload pkX15_putNumber rfl rfl ?_
        refine hd_if_eq pkX15_putNumber rfl (fun c2 => ?_) (fun c2 => ?_)
        · skip
          refine hd_iload pkX15_putNumber rfl rfl ?_
          refine hd_istore pkX15_putNumber rfl rfl ?_
          change MW _ _ _ _ _ [(7, (0, v1)), (0, (2, ((2595 : Nat) : Int))), (1, (1, v)), (3, (0, v1)), (4, (1, lf)), (6, (0, mo))] _ _
          refine hd_aload pkX15_putNumber rfl rfl (Int.natCast_nonneg _) ?_
          refine hd_getI pkX15_putNumber rfl (st_cell g14 (c := 2595) (k := 31) (n := 0) (by decide +kernel)).1 (st_cell g14 (c := 2595) (k := 31) (n := 0) (by decide +kernel)).2.1 (fun v3 ev3 rv3 => ?_)
          replace ev3 : v3 = ga hP 2595 37 := ev3
          rw [wP] at ev3
          refine hd_ipush (z := 1) pkX15_putNumber rfl ?_
          refine hd_isub pkX15_putNumber rfl (by omega) ?_
          refine hd_istore pkX15_putNumber rfl rfl ?_
          change MW _ _ _ _ _ [(8, (0, (v3 - 1))), (7, (0, v1)), (0, (2, ((2595 : Nat) : Int))), (1, (1, v)), (3, (0, v1)), (4, (1, lf)), (6, (0, mo))] _ _
          have lp53 : ∀ (N53 : Nat) (i k : Int) (hS : MH), StrZ zT hS → (Only [2595, 2618] h hS) → (∀ j : Int, 0 ≤ j → j ≠ 37 → ga hS 2595 j = ga h 2595 j) → (ga hS 2595 37 = w0 + s + n) → (0 ≤ i ∧ i ≤ 600) → (-1 ≤ k ∧ k ≤ 599) → k - i + 601 < (N53 : Int) → MW KX15_putNumber Q 0 0 (pcA pgX15_putNumber 53) [(0, (2, ((2595 : Nat) : Int))), (1, (1, v)), (3, (0, v1)), (4, (1, lf)), (6, (0, mo)), (7, (0, i)), (8, (0, k))] [] hS := by
            intro N53
            induction N53 with
            | zero => intro i k hS g53 oS fS wS ib kb hm53; exfalso; omega
            | succ N53 ih53 =>
              intro i k hS g53 oS fS wS ib kb hm53
              refine hd_iload pkX15_putNumber rfl rfl ?_
              refine hd_iload pkX15_putNumber rfl rfl ?_
              refine hd_ic_ge pkX15_putNumber rfl (fun c4 => ?_) (fun c4 => ?_)
              · skip
                refine hd_vret pkX15_putNumber rfl ?_
                subst eQ
                exact ⟨rfl, g53, oS, fS, by omega, by omega⟩
              · skip
                refine hd_aload pkX15_putNumber rfl rfl (Int.natCast_nonneg _) ?_
                refine hd_getR (n := 2618) pkX15_putNumber rfl (st_cell g53 (c := 2595) (k := 31) (n := 0) (by decide +kernel)).1 (st_cell g53 (c := 2595) (k := 31) (n := 0) (by decide +kernel)).2.1 (st_ref g53 (by decide +kernel)) ?_
                refine hd_iload pkX15_putNumber rfl rfl ?_
                refine hd_iald (n := 600) pkX15_putNumber rfl (st_cell g53 (c := 2618) (k := 0) (n := 600) (by decide +kernel)) (by omega) (by omega) (fun v5 ev5 rv5 => ?_)
                refine hd_istore pkX15_putNumber rfl rfl ?_
                change MW _ _ _ _ _ [(9, (0, v5)), (0, (2, ((2595 : Nat) : Int))), (1, (1, v)), (3, (0, v1)), (4, (1, lf)), (6, (0, mo)), (7, (0, i)), (8, (0, k))] _ _
                refine hd_aload pkX15_putNumber rfl rfl (Int.natCast_nonneg _) ?_
                refine hd_getR (n := 2618) pkX15_putNumber rfl (st_cell g53 (c := 2595) (k := 31) (n := 0) (by decide +kernel)).1 (st_cell g53 (c := 2595) (k := 31) (n := 0) (by decide +kernel)).2.1 (st_ref g53 (by decide +kernel)) ?_
                refine hd_iload pkX15_putNumber rfl rfl ?_
                refine hd_aload pkX15_putNumber rfl rfl (Int.natCast_nonneg _) ?_
                refine hd_getR (n := 2618) pkX15_putNumber rfl (st_cell g53 (c := 2595) (k := 31) (n := 0) (by decide +kernel)).1 (st_cell g53 (c := 2595) (k := 31) (n := 0) (by decide +kernel)).2.1 (st_ref g53 (by decide +kernel)) ?_
                refine hd_iload pkX15_putNumber rfl rfl ?_
                refine hd_iald (n := 600) pkX15_putNumber rfl (st_cell g53 (c := 2618) (k := 0) (n := 600) (by decide +kernel)) (by omega) (by omega) (fun v6 ev6 rv6 => ?_)
                refine hd_iast (n := 600) pkX15_putNumber rfl (st_cell g53 (c := 2618) (k := 0) (n := 600) (by decide +kernel)) (by first | decide | (unfold fR; omega)) (by omega) (by omega) (fun hh7 ehh7 => ?_)
                have ghh7 : StrZ zT hh7 := by rw [ehh7]; exact st_arr g53 (by decide +kernel)
                have oU : Only [2595, 2618] h hh7 := by rw [ehh7]; exact oS.set (by decide)
                have fU : ∀ j : Int, ga hh7 2595 j = ga hS 2595 j := fun j => by rw [ehh7]; exact ga_ne _ _ _ _ (by decide) j
                obtain ⟨hU, ehU⟩ : ∃ x : MH, x = hh7 := ⟨_, rfl⟩
                rw [← ehU] at oU fU
                refine hd_aload pkX15_putNumber rfl rfl (Int.natCast_nonneg _) ?_
                refine hd_getR (n := 2618) pkX15_putNumber rfl (st_cell ghh7 (c := 2595) (k := 31) (n := 0) (by decide +kernel)).1 (st_cell ghh7 (c := 2595) (k := 31) (n := 0) (by decide +kernel)).2.1 (st_ref ghh7 (by decide +kernel)) ?_
                refine hd_iload pkX15_putNumber rfl rfl ?_
                refine hd_iload pkX15_putNumber rfl rfl ?_
                refine hd_iast (n := 600) pkX15_putNumber rfl (st_cell ghh7 (c := 2618) (k := 0) (n := 600) (by decide +kernel)) (by first | decide | (unfold fR; omega)) (by omega) (by omega) (fun hh8 ehh8 => ?_)
                have ghh8 : StrZ zT hh8 := by rw [ehh8]; exact st_arr ghh7 (by decide +kernel)
                have oV : Only [2595, 2618] h hh8 := by rw [ehh8, ← ehU]; exact oU.set (by decide)
                have fV : ∀ j : Int, ga hh8 2595 j = ga hS 2595 j := fun j => by rw [ehh8, ← ehU, ga_ne _ _ _ _ (by decide)]; exact fU j
                refine hd_iinc (z := 1) pkX15_putNumber rfl rfl (by omega) rfl ?_
                change MW _ _ _ _ _ [(7, (0, (i + 1))), (9, (0, v5)), (0, (2, ((2595 : Nat) : Int))), (1, (1, v)), (3, (0, v1)), (4, (1, lf)), (6, (0, mo)), (8, (0, k))] _ _
                refine hd_iinc (z := (-1)) pkX15_putNumber rfl rfl (by omega) rfl ?_
                change MW _ _ _ _ _ [(8, (0, (k + (-1)))), (7, (0, (i + 1))), (9, (0, v5)), (0, (2, ((2595 : Nat) : Int))), (1, (1, v)), (3, (0, v1)), (4, (1, lf)), (6, (0, mo))] _ _
                refine hd_goto pkX15_putNumber rfl ?_
                refine m_sub [(0, (2, ((2595 : Nat) : Int))), (1, (1, v)), (3, (0, v1)), (4, (1, lf)), (6, (0, mo)), (7, (0, (i + 1))), (8, (0, (k + (-1))))] (List.forall_mem_cons.mpr ⟨rfl, List.forall_mem_cons.mpr ⟨rfl, List.forall_mem_cons.mpr ⟨rfl, List.forall_mem_cons.mpr ⟨rfl, List.forall_mem_cons.mpr ⟨rfl, List.forall_mem_cons.mpr ⟨rfl, List.forall_mem_cons.mpr ⟨rfl, fun _ h => absurd h List.not_mem_nil⟩⟩⟩⟩⟩⟩⟩) ?_
                refine ih53  ((i + 1)) ((k + (-1))) hh8 ghh8 ?_ ?_ ?_ ?_ ?_ ?_
                · exact oV
                · intro j a b
                  rw [fV j]
                  exact fS j a b
                · rw [fV]
                  exact wS
                · omega
                · omega
                · omega
          refine m_sub [(0, (2, ((2595 : Nat) : Int))), (1, (1, v)), (3, (0, v1)), (4, (1, lf)), (6, (0, mo)), (7, (0, v1)), (8, (0, (v3 - 1)))] (List.forall_mem_cons.mpr ⟨rfl, List.forall_mem_cons.mpr ⟨rfl, List.forall_mem_cons.mpr ⟨rfl, List.forall_mem_cons.mpr ⟨rfl, List.forall_mem_cons.mpr ⟨rfl, List.forall_mem_cons.mpr ⟨rfl, List.forall_mem_cons.mpr ⟨rfl, fun _ h => absurd h List.not_mem_nil⟩⟩⟩⟩⟩⟩⟩) ?_
          refine lp53 ((((v3 - 1)) - (v1) + 601) + 1).toNat (v1) ((v3 - 1)) hP g14 ?_ ?_ ?_ ?_ ?_ ?_
          · exact oP
          · exact fP
          · exact wP
          · omega
          · omega
          · omega
        · skip
          have n18 : n ≤ 18 := by
            rcases mb with w | ⟨_, w | w⟩
            · omega
            · omega
            · have z := n18_of w lb
              omega
          refine hd_lload pkX15_putNumber rfl rfl ?_
          refine hd_lpush (z := 10) pkX15_putNumber rfl ?_
          refine hd_lrem pkX15_putNumber rfl (by decide) (by have w := dg10 lf; omega) ?_
          generalize edg : (Int.tmod lf 10) = dg
          have db := (dg10 lf).1
          rw [edg] at db
          refine hd_lstore pkX15_putNumber rfl rfl ?_
          change MW _ _ _ _ _ [(7, (1, dg)), (0, (2, ((2595 : Nat) : Int))), (1, (1, v)), (3, (0, v1)), (4, (1, lf)), (6, (0, mo))] _ _
          refine hd_lload pkX15_putNumber rfl rfl ?_
          refine hd_lpush (z := 10) pkX15_putNumber rfl ?_
          refine hd_ldiv pkX15_putNumber rfl (by decide) (by have w := dg10 lf; rcases Int.le_total 0 lf with q | q <;> first | (have := w.2.2.1 q; omega) | (have := w.2.2.2 q; omega)) ?_
          generalize el2 : (Int.tdiv lf 10) = l2
          have dl := (dg10 lf).2.1
          have dr : -9223372036854775808 ≤ l2 ∧ l2 ≤ 9223372036854775807 := by
            rw [← el2]
            have w := dg10 lf
            rcases Int.le_total 0 lf with q | q <;> first | (have := w.2.2.1 q; omega) | (have := w.2.2.2 q; omega)
          rw [el2] at dl
          refine hd_lstore pkX15_putNumber rfl rfl ?_
          change MW _ _ _ _ _ [(4, (1, l2)), (7, (1, dg)), (0, (2, ((2595 : Nat) : Int))), (1, (1, v)), (3, (0, v1)), (6, (0, mo))] _ _
          refine hd_aload pkX15_putNumber rfl rfl (Int.natCast_nonneg _) ?_
          refine hd_lpush (z := 48) pkX15_putNumber rfl ?_
          refine hd_lload pkX15_putNumber rfl rfl ?_
          refine hd_lpush (z := 0) pkX15_putNumber rfl ?_
          have cut34 : ∀ (ab : Int), (0 ≤ ab ∧ ab ≤ 9) → MW KX15_putNumber Q 0 0 (pcA pgX15_putNumber 34) [(0, (2, ((2595 : Nat) : Int))), (1, (1, v)), (3, (0, v1)), (4, (1, l2)), (6, (0, mo)), (7, (1, dg))] [(1, ab), (1, 48), (2, ((2595 : Nat) : Int))] hP := by
            intro ab abb
            refine hd_ladd pkX15_putNumber rfl (by omega) ?_
            refine hd_l2i pkX15_putNumber rfl (by omega) ?_
            refine hd_callV pkX15_putNumber rfl (q := (KX15_put, yX15_put, 15, 1, 0)) rfl rfl rfl (As := [(0, (48 + ab))]) (rest := []) (c := 2595) rfl rfl (Nat.le_of_ble_eq_true rfl) (st_cell g14 (c := 2595) (k := 31) (n := 0) (by decide +kernel)).1 (st_cell g14 (c := 2595) (k := 31) (n := 0) (by decide +kernel)).2.1 (h_X15_put ⟨by omega, by omega⟩ g14) (hd_bV (fun hc9 p36 => ?_))
            have ghc9 : StrZ zT hc9 := p36.1
            have oQ : Only [2595, 2618] h hc9 := oP.trans p36.2.1
            have fQ : ∀ j : Int, 0 ≤ j → j ≠ 37 → ga hc9 2595 j = ga h 2595 j := fun j a b => (p36.2.2.1 j a b).trans (fP j a b)
            have wQ : ga hc9 2595 37 = w0 + s + (n + 1) := by rw [p36.2.2.2, wP]; omega
            refine hd_lload pkX15_putNumber rfl rfl ?_
            refine hd_lpush (z := 0) pkX15_putNumber rfl ?_
            have cut44 : ∀ (m2 : Int), ((m2 = 0 ∧ l2 = 0) ∨ (m2 = 1 ∧ l2 ≠ 0)) → MW KX15_putNumber Q 0 0 (pcA pgX15_putNumber 44) [(0, (2, ((2595 : Nat) : Int))), (1, (1, v)), (3, (0, v1)), (4, (1, l2)), (6, (0, mo)), (7, (1, dg))] [(0, m2)] hc9 := by
              intro m2 m2b
              refine hd_istore pkX15_putNumber rfl rfl ?_
              change MW _ _ _ _ _ [(6, (0, m2)), (0, (2, ((2595 : Nat) : Int))), (1, (1, v)), (3, (0, v1)), (4, (1, l2)), (7, (1, dg))] _ _
              refine hd_goto pkX15_putNumber rfl ?_
              refine m_sub [(0, (2, ((2595 : Nat) : Int))), (1, (1, v)), (3, (0, v1)), (4, (1, l2)), (6, (0, m2))] (List.forall_mem_cons.mpr ⟨rfl, List.forall_mem_cons.mpr ⟨rfl, List.forall_mem_cons.mpr ⟨rfl, List.forall_mem_cons.mpr ⟨rfl, List.forall_mem_cons.mpr ⟨rfl, fun _ h => absurd h List.not_mem_nil⟩⟩⟩⟩⟩) ?_
              refine ih14  (l2) (m2) (n + 1) hc9 ghc9 ?_ ?_ ?_ ?_ ?_ ?_ ?_ ?_
              · exact oQ
              · exact fQ
              · exact wQ
              · omega
              · omega
              · rw [show (n + 1).toNat = n.toNat + 1 by omega]
                exact dl10 dl lb
              · omega
              · omega
            refine hd_lc_eq pkX15_putNumber rfl (fun c10 => ?_) (fun c10 => ?_)
            · skip
              refine hd_ipush (z := 0) pkX15_putNumber rfl ?_
              refine cut44 (0) ?_
              · omega
            · skip
              refine hd_ipush (z := 1) pkX15_putNumber rfl ?_
              refine hd_goto pkX15_putNumber rfl ?_
              refine cut44 (1) ?_
              · omega
          refine hd_lc_ge pkX15_putNumber rfl (fun c11 => ?_) (fun c11 => ?_)
          · skip
            refine hd_lload pkX15_putNumber rfl rfl ?_
            refine m_sub [(0, (2, ((2595 : Nat) : Int))), (1, (1, v)), (3, (0, v1)), (4, (1, l2)), (6, (0, mo)), (7, (1, dg))] (List.forall_mem_cons.mpr ⟨rfl, List.forall_mem_cons.mpr ⟨rfl, List.forall_mem_cons.mpr ⟨rfl, List.forall_mem_cons.mpr ⟨rfl, List.forall_mem_cons.mpr ⟨rfl, List.forall_mem_cons.mpr ⟨rfl, fun _ h => absurd h List.not_mem_nil⟩⟩⟩⟩⟩⟩) ?_
            refine cut34 (dg) ?_
            · omega
          · skip
            refine hd_lload pkX15_putNumber rfl rfl ?_
            refine hd_lneg pkX15_putNumber rfl (by omega) ?_
            refine hd_goto pkX15_putNumber rfl ?_
            refine m_sub [(0, (2, ((2595 : Nat) : Int))), (1, (1, v)), (3, (0, v1)), (4, (1, l2)), (6, (0, mo)), (7, (1, dg))] (List.forall_mem_cons.mpr ⟨rfl, List.forall_mem_cons.mpr ⟨rfl, List.forall_mem_cons.mpr ⟨rfl, List.forall_mem_cons.mpr ⟨rfl, List.forall_mem_cons.mpr ⟨rfl, List.forall_mem_cons.mpr ⟨rfl, fun _ h => absurd h List.not_mem_nil⟩⟩⟩⟩⟩⟩) ?_
            refine cut34 ((-dg)) ?_
            · omega
    refine m_sub [(0, (2, ((2595 : Nat) : Int))), (1, (1, v)), (3, (0, v1)), (4, (1, v)), (6, (0, 1))] (List.forall_mem_cons.mpr ⟨rfl, List.forall_mem_cons.mpr ⟨rfl, List.forall_mem_cons.mpr ⟨rfl, List.forall_mem_cons.mpr ⟨rfl, List.forall_mem_cons.mpr ⟨rfl, fun _ h => absurd h List.not_mem_nil⟩⟩⟩⟩⟩) ?_
    refine lp14 (((19 : Int) - (0)) + 1).toNat (v) (1) (0) hM gc7 ?_ ?_ ?_ ?_ ?_ ?_ ?_ ?_
    · exact oN
    · exact fN
    · omega
    · omega
    · omega
    · show (v.natAbs : Int) * 1 ≤ _
      omega
    · omega
    · omega
  refine hd_lc_ge pkX15_putNumber rfl (fun c12 => ?_) (fun c12 => ?_)
  · skip
    refine cut7 trivial h g ?_ ?_ ?_
    · first | exact oM | exact Only.refl _ _
    · first | exact fM | exact fun _ _ _ => rfl
    · first | exact ⟨1, wM, by decide, by decide⟩ | exact ⟨0, by omega, by decide, by decide⟩
  · skip
    refine hd_aload pkX15_putNumber rfl rfl (Int.natCast_nonneg _) ?_
    refine hd_ipush (z := 45) pkX15_putNumber rfl ?_
    refine hd_callV pkX15_putNumber rfl (q := (KX15_put, yX15_put, 15, 1, 0)) rfl rfl rfl (As := [(0, 45)]) (rest := []) (c := 2595) rfl rfl (Nat.le_of_ble_eq_true rfl) (st_cell g (c := 2595) (k := 31) (n := 0) (by decide +kernel)).1 (st_cell g (c := 2595) (k := 31) (n := 0) (by decide +kernel)).2.1 (h_X15_put ⟨by omega, by omega⟩ g) (hd_bV (fun hc13 p6 => ?_))
    have ghc13 : StrZ zT hc13 := p6.1
    have oM : Only [2595, 2618] h hc13 := p6.2.1
    have fM := p6.2.2.1
    have wM : ga hc13 2595 37 = w0 + 1 := by rw [p6.2.2.2, ew]
    refine cut7 trivial hc13 ghc13 ?_ ?_ ?_
    · first | exact oM | exact Only.refl _ _
    · first | exact fM | exact fun _ _ _ => rfl
    · first | exact ⟨1, wM, by decide, by decide⟩ | exact ⟨0, by omega, by decide, by decide⟩
