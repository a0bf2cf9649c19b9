/-! the law from its entry -/
theorem way1_of {h : MH} (v : ∀ j : Int, 0 ≤ j → j ≤ 15 → -2 ≤ gz h 1 j ∧ gz h 1 j ≤ 2) : zGl zG zi_X10_way1 h := by
  have e : zG.1 zi_X10_way1 = some ([60001, 60002], [((1, 1, 1, 0), (1, []), (0, [(60001, 1)]), (0, [(60002, 1)]))], [(0, [(60001, 1)]), (15, [(60001, -1)])], [(2, [(60002, 1)]), (2, [(60002, -1)])]) := zG_is (by decide +kernel)
  unfold zGl
  rw [e]
  intro ρ β _ he hg c hc
  have h1 := (he _ List.mem_cons_self).2
  have g1 := hg _ List.mem_cons_self
  have g2 := hg _ (List.mem_cons_of_mem _ List.mem_cons_self)
  have h1 : gz h (1 + 0) (0 + (1 * β 60001 + 0)) = 0 + (1 * β 60002 + 0) := h1
  have g1 : (0 : Int) ≤ 0 + (1 * β 60001 + 0) := g1
  have g2 : (0 : Int) ≤ 15 + (-1 * β 60001 + 0) := g2
  rw [show ((1 : Int) + 0) = 1 by omega, show (0 : Int) + (1 * β 60001 + 0) = β 60001 by omega] at h1
  have w := v (β 60001) (by omega) (by omega)
  have hc : c ∈ [((2 : Int), [((60002 : Nat), (1 : Int))]), (2, [(60002, -1)])] := hc
  simp only [List.mem_cons, List.not_mem_nil, or_false] at hc
  rcases hc with rfl | rfl
  · show (0 : Int) ≤ 2 + (1 * β 60002 + 0)
    omega
  · show (0 : Int) ≤ 2 + (-1 * β 60002 + 0)
    omega
theorem way2_of {h : MH} (v : ∀ j : Int, 0 ≤ j → j ≤ 15 → -2 ≤ gz h 2 j ∧ gz h 2 j ≤ 2) : zGl zG zi_X10_way2 h := by
  have e : zG.1 zi_X10_way2 = some ([60001, 60002], [((2, 2, 1, 0), (2, []), (0, [(60001, 1)]), (0, [(60002, 1)]))], [(0, [(60001, 1)]), (15, [(60001, -1)])], [(2, [(60002, 1)]), (2, [(60002, -1)])]) := zG_is (by decide +kernel)
  unfold zGl
  rw [e]
  intro ρ β _ he hg c hc
  have h1 := (he _ List.mem_cons_self).2
  have g1 := hg _ List.mem_cons_self
  have g2 := hg _ (List.mem_cons_of_mem _ List.mem_cons_self)
  have h1 : gz h (2 + 0) (0 + (1 * β 60001 + 0)) = 0 + (1 * β 60002 + 0) := h1
  have g1 : (0 : Int) ≤ 0 + (1 * β 60001 + 0) := g1
  have g2 : (0 : Int) ≤ 15 + (-1 * β 60001 + 0) := g2
  rw [show ((2 : Int) + 0) = 2 by omega, show (0 : Int) + (1 * β 60001 + 0) = β 60001 by omega] at h1
  have w := v (β 60001) (by omega) (by omega)
  have hc : c ∈ [((2 : Int), [((60002 : Nat), (1 : Int))]), (2, [(60002, -1)])] := hc
  simp only [List.mem_cons, List.not_mem_nil, or_false] at hc
  rcases hc with rfl | rfl
  · show (0 : Int) ≤ 2 + (1 * β 60002 + 0)
    omega
  · show (0 : Int) ≤ 2 + (-1 * β 60002 + 0)
    omega
theorem way3_of {h : MH} (v : ∀ j : Int, 0 ≤ j → j ≤ 15 → 10 ≤ gz h 3 j ∧ gz h 3 j ≤ 22) : zGl zG zi_X10_way3 h := by
  have e : zG.1 zi_X10_way3 = some ([60001, 60002], [((3, 3, 1, 0), (3, []), (0, [(60001, 1)]), (0, [(60002, 1)]))], [(0, [(60001, 1)]), (15, [(60001, -1)])], [(-10, [(60002, 1)]), (22, [(60002, -1)])]) := zG_is (by decide +kernel)
  unfold zGl
  rw [e]
  intro ρ β _ he hg c hc
  have h1 := (he _ List.mem_cons_self).2
  have g1 := hg _ List.mem_cons_self
  have g2 := hg _ (List.mem_cons_of_mem _ List.mem_cons_self)
  have h1 : gz h (3 + 0) (0 + (1 * β 60001 + 0)) = 0 + (1 * β 60002 + 0) := h1
  have g1 : (0 : Int) ≤ 0 + (1 * β 60001 + 0) := g1
  have g2 : (0 : Int) ≤ 15 + (-1 * β 60001 + 0) := g2
  rw [show ((3 : Int) + 0) = 3 by omega, show (0 : Int) + (1 * β 60001 + 0) = β 60001 by omega] at h1
  have w := v (β 60001) (by omega) (by omega)
  have hc : c ∈ [((-10 : Int), [((60002 : Nat), (1 : Int))]), (22, [(60002, -1)])] := hc
  simp only [List.mem_cons, List.not_mem_nil, or_false] at hc
  rcases hc with rfl | rfl
  · show (0 : Int) ≤ -10 + (1 * β 60002 + 0)
    omega
  · show (0 : Int) ≤ 22 + (-1 * β 60002 + 0)
    omega
theorem lit_ga {c : Nat} {q : CC} (e : cAt hLit c = some q) (hb : MH) (i : Int) : ga (cMH hb hLit) c i = cvl q i.toNat := by
  show ((cMH hb hLit).2 c).2.2 i.toNat = _
  rw [cMH_at e]
  rfl
theorem lit_v {c j : Nat} {v : Int} (e : (cAt hLit c).map (fun q => cvl q j) = some v) (hb : MH) : ga (cMH hb hLit) c (j : Int) = v := by
  cases h : cAt hLit c with
  | none => rw [h] at e; cases e
  | some q =>
    rw [h] at e
    rw [lit_ga h, Int.toNat_natCast]
    exact Option.some.inj e
/-- a cell with nothing but 0 -/
def lZ (c : Nat) : Bool := match cAt hLit c with
  | some q => Nat.beq q.2.2.1 0 && q.2.2.2.isEmpty
  | none => false
theorem lZ_ga {c : Nat} (e : lZ c = true) (hb : MH) (i : Int) : ga (cMH hb hLit) c i = 0 := by
  unfold lZ at e
  cases h : cAt hLit c with
  | none => rw [h] at e; cases e
  | some q =>
    rw [h] at e
    obtain ⟨e1, e2⟩ := andB e
    rw [lit_ga h]
    unfold cvl
    rw [List.isEmpty_iff.mp e2]
    show cdf q.1 q.2.1 q.2.2.1 _ = 0
    rw [beqN e1]
    rfl
theorem litZ : [2465, 2466, 2503, 2520, 2523, 2524, 2528, 2529, 2530, 2531].all lZ = true := by decide +kernel
set_option maxRecDepth 100000 in
theorem litV : (cAt hLit 2495).map (fun q => cvl q 3) = some 1 ∧ (cAt hLit 2495).map (fun q => cvl q 10) = some 0 ∧ (cAt hLit 2495).map (fun q => cvl q 12) = some 0 ∧ (cAt hLit 2495).map (fun q => cvl q 16) = some 0 ∧ (cAt hLit 2498).map (fun q => cvl q 0) = some 1 ∧ (cAt hLit 2499).map (fun q => cvl q 0) = some 1 ∧ (cAt hLit 2514).map (fun q => cvl q 2) = some 0 ∧ (cAt hLit 2514).map (fun q => cvl q 6) = some 0 ∧ (cAt hLit 2514).map (fun q => cvl q 7) = some 0 ∧ (cAt hLit 2514).map (fun q => cvl q 13) = some 0 ∧ (cAt hLit 2514).map (fun q => cvl q 15) = some 0 ∧ (cAt hLit 2514).map (fun q => cvl q 17) = some 0 ∧ (cAt hLit 2514).map (fun q => cvl q 21) = some 0 ∧ (cAt hLit 2514).map (fun q => cvl q 24) = some 0 ∧ (cAt hLit 2514).map (fun q => cvl q 26) = some 0 ∧ (cAt hLit 2468).map (fun q => cvl q 22) = some 0 := by decide +kernel
theorem opq_beg (k : Nat) (hb : MH) : zopq k (cMH hb hLit) := by
  have z2465 : ∀ i : Int, ga (cMH hb hLit) 2465 i = 0 := fun i => lZ_ga (List.all_eq_true.mp litZ 2465 (by decide)) hb i
  have z2466 : ∀ i : Int, ga (cMH hb hLit) 2466 i = 0 := fun i => lZ_ga (List.all_eq_true.mp litZ 2466 (by decide)) hb i
  have z2503 : ∀ i : Int, ga (cMH hb hLit) 2503 i = 0 := fun i => lZ_ga (List.all_eq_true.mp litZ 2503 (by decide)) hb i
  have z2520 : ∀ i : Int, ga (cMH hb hLit) 2520 i = 0 := fun i => lZ_ga (List.all_eq_true.mp litZ 2520 (by decide)) hb i
  have z2523 : ∀ i : Int, ga (cMH hb hLit) 2523 i = 0 := fun i => lZ_ga (List.all_eq_true.mp litZ 2523 (by decide)) hb i
  have z2524 : ∀ i : Int, ga (cMH hb hLit) 2524 i = 0 := fun i => lZ_ga (List.all_eq_true.mp litZ 2524 (by decide)) hb i
  have z2528 : ∀ i : Int, ga (cMH hb hLit) 2528 i = 0 := fun i => lZ_ga (List.all_eq_true.mp litZ 2528 (by decide)) hb i
  have z2529 : ∀ i : Int, ga (cMH hb hLit) 2529 i = 0 := fun i => lZ_ga (List.all_eq_true.mp litZ 2529 (by decide)) hb i
  have z2530 : ∀ i : Int, ga (cMH hb hLit) 2530 i = 0 := fun i => lZ_ga (List.all_eq_true.mp litZ 2530 (by decide)) hb i
  have z2531 : ∀ i : Int, ga (cMH hb hLit) 2531 i = 0 := fun i => lZ_ga (List.all_eq_true.mp litZ 2531 (by decide)) hb i
  have v2495_3 : ga (cMH hb hLit) 2495 3 = 1 := lit_v (j := 3) (litV.1) hb
  have v2495_10 : ga (cMH hb hLit) 2495 10 = 0 := lit_v (j := 10) (litV.2.1) hb
  have v2495_12 : ga (cMH hb hLit) 2495 12 = 0 := lit_v (j := 12) (litV.2.2.1) hb
  have v2495_16 : ga (cMH hb hLit) 2495 16 = 0 := lit_v (j := 16) (litV.2.2.2.1) hb
  have v2498_0 : ga (cMH hb hLit) 2498 0 = 1 := lit_v (j := 0) (litV.2.2.2.2.1) hb
  have v2499_0 : ga (cMH hb hLit) 2499 0 = 1 := lit_v (j := 0) (litV.2.2.2.2.2.1) hb
  have v2514_2 : ga (cMH hb hLit) 2514 2 = 0 := lit_v (j := 2) (litV.2.2.2.2.2.2.1) hb
  have v2514_6 : ga (cMH hb hLit) 2514 6 = 0 := lit_v (j := 6) (litV.2.2.2.2.2.2.2.1) hb
  have v2514_7 : ga (cMH hb hLit) 2514 7 = 0 := lit_v (j := 7) (litV.2.2.2.2.2.2.2.2.1) hb
  have v2514_13 : ga (cMH hb hLit) 2514 13 = 0 := lit_v (j := 13) (litV.2.2.2.2.2.2.2.2.2.1) hb
  have v2514_15 : ga (cMH hb hLit) 2514 15 = 0 := lit_v (j := 15) (litV.2.2.2.2.2.2.2.2.2.2.1) hb
  have v2514_17 : ga (cMH hb hLit) 2514 17 = 0 := lit_v (j := 17) (litV.2.2.2.2.2.2.2.2.2.2.2.1) hb
  have v2514_21 : ga (cMH hb hLit) 2514 21 = 0 := lit_v (j := 21) (litV.2.2.2.2.2.2.2.2.2.2.2.2.1) hb
  have v2514_24 : ga (cMH hb hLit) 2514 24 = 0 := lit_v (j := 24) (litV.2.2.2.2.2.2.2.2.2.2.2.2.2.1) hb
  have v2514_26 : ga (cMH hb hLit) 2514 26 = 0 := lit_v (j := 26) (litV.2.2.2.2.2.2.2.2.2.2.2.2.2.2.1) hb
  have v2468_22 : ga (cMH hb hLit) 2468 22 = 0 := lit_v (j := 22) (litV.2.2.2.2.2.2.2.2.2.2.2.2.2.2.2) hb
  match k with
  | 0 => exact trivial
  | 1 =>
    intro w w0 w1 n n1 n2
    rw [z2466] at n2
    have e : n = 0 := by omega
    subst e
    show 0 ≤ ga (cMH hb hLit) 2465 w ∧ ga (cMH hb hLit) 2465 w ≤ 143
    rw [z2465]
    decide
  | 2 =>
    refine ⟨1, ⟨⟨⟨by decide, v2495_3, fun k k0 k1 => ?_, fun j j0 j1 => ?_⟩, fun q => absurd v2495_16 q⟩, ⟨?_, fun i i0 i1 => ?_⟩, ?_⟩⟩
    · have e : k = 0 := by omega
      subst e
      rw [v2498_0, v2499_0]
      decide
    · rw [z2503]
      decide
    · rw [v2495_12]
      decide
    · rw [v2495_12] at i1
      omega
    · rw [v2495_10]
      decide
  | 3 =>
    refine ⟨0, ⟨⟨v2514_2, by decide, fun i i0 i1 => by omega, fun i j i0 i1 i2 => by omega⟩, ⟨by rw [v2514_7]; decide, fun t a b => ?_⟩, ⟨by rw [v2514_21]; decide, fun i i0 i1 => by rw [v2514_21] at i1; omega⟩, ⟨by rw [v2514_24]; decide, by rw [v2514_26]; decide, fun k k0 k1 => by rw [z2528, z2530]; decide, fun t a b => by rw [z2529, z2531]; decide⟩, ⟨fun q => absurd v2514_13 q, by rw [v2514_15, v2514_17]; decide⟩⟩, ⟨fun q => absurd v2514_6 q, fun q => absurd v2514_13 q⟩⟩
    rw [z2520, z2523, z2524]
    exact ⟨by decide, by decide, by decide, fun i i0 i1 => by omega⟩
  | 4 =>
    have nA0 : nA (N13 (cMH hb hLit) (-1)) = 0 := v2468_22
    refine ⟨by rw [v2468_22]; decide, fun e e0 e1 => by rw [v2468_22] at e1; omega, ⟨fun _ => 0, fun v y ev => ?_⟩, fun u _ _ => ?_⟩
    · have := ev.2.1
      omega
    · show sm12 _ (nA (N13 (cMH hb hLit) (-1))).toNat = 0
      rw [nA0]
      rfl
  | k + 5 => exact trivial

theorem opq_ini (k : Nat) (h : Nat.blt k 1000 = true) (hb : MH) : zGl zG k (cMH hb hLit) := by
  have e : zG.1 k = none := by
    show zdec k = none
    unfold zdec
    rw [h]
    rfl
  unfold zGl
  rw [e]
  exact opq_beg k hb
set_option maxRecDepth 100000 in
theorem zJ_ini {hb : MH} (w1 : zGl zG zi_X10_way1 (cMH hb hLit)) (w2 : zGl zG zi_X10_way2 (cMH hb hLit)) (w3 : zGl zG zi_X10_way3 (cMH hb hLit)) : ∀ k ∈ zJ, zGl zG k (cMH hb hLit) := List.forall_mem_cons.mpr ⟨ini_X0b_kd hb, List.forall_mem_cons.mpr ⟨ini_X0b_ka hb, List.forall_mem_cons.mpr ⟨ini_X0b_rf hb, List.forall_mem_cons.mpr ⟨ini_X0b_ln0 hb, List.forall_mem_cons.mpr ⟨ini_X0b_ln1 hb, List.forall_mem_cons.mpr ⟨ini_X0b_ln2 hb, List.forall_mem_cons.mpr ⟨ini_X0b_ln3 hb, List.forall_mem_cons.mpr ⟨ini_X0b_lnx hb, List.forall_mem_cons.mpr ⟨ini_X0b_len hb, List.forall_mem_cons.mpr ⟨ini_X0b_sg hb, List.forall_mem_cons.mpr ⟨ini_X0b_lb hb, List.forall_mem_cons.mpr ⟨ini_X0b_top0 hb, List.forall_mem_cons.mpr ⟨ini_X0b_top1 hb, List.forall_mem_cons.mpr ⟨ini_X0_f_beams hb, List.forall_mem_cons.mpr ⟨ini_X0_f_rows hb, List.forall_mem_cons.mpr ⟨ini_X0_f_signs hb, List.forall_mem_cons.mpr ⟨ini_X0_f_free hb, List.forall_mem_cons.mpr ⟨ini_X0_r_size0 hb, List.forall_mem_cons.mpr ⟨ini_X0_r_size1 hb, List.forall_mem_cons.mpr ⟨ini_X0_a_moveOf hb, List.forall_mem_cons.mpr ⟨ini_X0_a_settled hb, List.forall_mem_cons.mpr ⟨ini_X0_r_row0 hb, List.forall_mem_cons.mpr ⟨ini_X0_r_row1 hb, List.forall_mem_cons.mpr ⟨ini_X0_r_row2 hb, List.forall_mem_cons.mpr ⟨ini_X0_rw hb, List.forall_mem_cons.mpr ⟨ini_X2_f_joins hb, List.forall_mem_cons.mpr ⟨ini_X2_f_settings hb, List.forall_mem_cons.mpr ⟨ini_X2_f_comings hb, List.forall_mem_cons.mpr ⟨ini_X2_f_reads hb, List.forall_mem_cons.mpr ⟨ini_X2_f_rules hb, List.forall_mem_cons.mpr ⟨ini_X2_f_saves hb, List.forall_mem_cons.mpr ⟨ini_X2_r_cell3 hb, List.forall_mem_cons.mpr ⟨ini_X2_r_cell5 hb, List.forall_mem_cons.mpr ⟨ini_X2_r_cell6 hb, List.forall_mem_cons.mpr ⟨ini_X2_r_join0 hb, List.forall_mem_cons.mpr ⟨ini_X2_r_join1 hb, List.forall_mem_cons.mpr ⟨ini_X2_r_join3 hb, List.forall_mem_cons.mpr ⟨ini_X2_l_joinsFrom hb, List.forall_mem_cons.mpr ⟨ini_X2_l_joinsTo hb, List.forall_mem_cons.mpr ⟨ini_X2_r_setting0 hb, List.forall_mem_cons.mpr ⟨ini_X2_r_setting1 hb, List.forall_mem_cons.mpr ⟨ini_X2_r_setting4 hb, List.forall_mem_cons.mpr ⟨ini_X2_r_coming0 hb, List.forall_mem_cons.mpr ⟨ini_X2_r_rule0 hb, List.forall_mem_cons.mpr ⟨ini_X2_r_rule2 hb, List.forall_mem_cons.mpr ⟨ini_X2_r_read0 hb, List.forall_mem_cons.mpr ⟨ini_X2_r_read1 hb, List.forall_mem_cons.mpr ⟨ini_X2_step hb, List.forall_mem_cons.mpr ⟨ini_X2_acts hb, List.forall_mem_cons.mpr ⟨ini_X2_sr hb, List.forall_mem_cons.mpr ⟨ini_X2_sk hb, List.forall_mem_cons.mpr ⟨ini_X2_sl hb, List.forall_mem_cons.mpr ⟨ini_X2_s4 hb, List.forall_mem_cons.mpr ⟨ini_X2_s7 hb, List.forall_mem_cons.mpr ⟨ini_X10_a_cost hb, List.forall_mem_cons.mpr ⟨ini_X10_a_level hb, List.forall_mem_cons.mpr ⟨ini_X10_a_most hb, List.forall_mem_cons.mpr ⟨ini_X10_a_cents hb, List.forall_mem_cons.mpr ⟨ini_X10_a_zone hb, List.forall_mem_cons.mpr ⟨ini_X10_q_value hb, List.forall_mem_cons.mpr ⟨ini_X10_a_above hb, List.forall_mem_cons.mpr ⟨ini_X10_a_below hb, List.forall_mem_cons.mpr ⟨ini_X10_f_reach hb, List.forall_mem_cons.mpr ⟨ini_X10_f_slope hb, List.forall_mem_cons.mpr ⟨ini_X10_f_turn hb, List.forall_mem_cons.mpr ⟨ini_X10_f_foundCount hb, List.forall_mem_cons.mpr ⟨ini_X10_f_nodes hb, List.forall_mem_cons.mpr ⟨w1, List.forall_mem_cons.mpr ⟨w2, List.forall_mem_cons.mpr ⟨w3, List.forall_mem_cons.mpr ⟨ini_X10_fr hb, List.forall_mem_cons.mpr ⟨ini_X10_fk hb, List.forall_mem_cons.mpr ⟨ini_X10_fl hb, List.forall_mem_cons.mpr ⟨ini_X10_fe hb, List.forall_mem_cons.mpr ⟨ini_X6_rg_cost hb, List.forall_mem_cons.mpr ⟨ini_X6_kd_cost hb, List.forall_mem_cons.mpr ⟨ini_X6_n0_cost hb, List.forall_mem_cons.mpr ⟨ini_X6_ln_cost hb, List.forall_mem_cons.mpr ⟨ini_X6_rg_count hb, List.forall_mem_cons.mpr ⟨ini_X6_kd_count hb, List.forall_mem_cons.mpr ⟨ini_X6_n0_count hb, List.forall_mem_cons.mpr ⟨ini_X6_ln_count hb, List.forall_mem_cons.mpr ⟨ini_X6_rg_heap hb, List.forall_mem_cons.mpr ⟨ini_X6_kd_heap hb, List.forall_mem_cons.mpr ⟨ini_X6_n0_heap hb, List.forall_mem_cons.mpr ⟨ini_X6_ln_heap hb, List.forall_mem_cons.mpr ⟨ini_X6_rg_spot hb, List.forall_mem_cons.mpr ⟨ini_X6_kd_spot hb, List.forall_mem_cons.mpr ⟨ini_X6_n0_spot hb, List.forall_mem_cons.mpr ⟨ini_X6_l2 hb, List.forall_mem_cons.mpr ⟨ini_X6_l1 hb, List.forall_mem_cons.mpr ⟨ini_X6_or_cost hb, List.forall_mem_cons.mpr ⟨ini_X6_or_count hb, List.forall_mem_cons.mpr ⟨ini_X6_or_heap hb, List.forall_mem_cons.mpr ⟨ini_X6_fd_cost hb, List.forall_mem_cons.mpr ⟨ini_X6_sd_cost hb, List.forall_mem_cons.mpr ⟨ini_X6_fd_count hb, List.forall_mem_cons.mpr ⟨ini_X6_sd_count hb, List.forall_mem_cons.mpr ⟨ini_X6_fd_heap hb, List.forall_mem_cons.mpr ⟨ini_X6_sd_heap hb, List.forall_mem_cons.mpr ⟨ini_X6_fd_spot hb, List.forall_mem_cons.mpr ⟨ini_X6_sd_spot hb, List.forall_mem_cons.mpr ⟨ini_X6_he hb, List.forall_mem_cons.mpr ⟨ini_X6_se hb, List.forall_mem_cons.mpr ⟨ini_X6_hm hb, List.forall_mem_cons.mpr ⟨ini_X3_f_signs hb, List.forall_mem_cons.mpr ⟨ini_X3_f_words hb, List.forall_mem_cons.mpr ⟨ini_X3_f_items hb, List.forall_mem_cons.mpr ⟨ini_X3_f_shapes hb, List.forall_mem_cons.mpr ⟨ini_X3_f_entries hb, List.forall_mem_cons.mpr ⟨ini_X3_f_changes hb, List.forall_mem_cons.mpr ⟨ini_X3_f_penalties hb, List.forall_mem_cons.mpr ⟨ini_X3_f_opens hb, List.forall_mem_cons.mpr ⟨ini_X3_f_backMonth hb, List.forall_mem_cons.mpr ⟨ini_X3_r_item11 hb, List.forall_mem_cons.mpr ⟨ini_X3_r_item0 hb, List.forall_mem_cons.mpr ⟨ini_X3_r_entry0 hb, List.forall_mem_cons.mpr ⟨ini_X3_r_entry1 hb, List.forall_mem_cons.mpr ⟨ini_X3_r_entry2 hb, List.forall_mem_cons.mpr ⟨ini_X3_wd hb, List.forall_mem_cons.mpr ⟨ini_X3_a_weight hb, List.forall_mem_cons.mpr ⟨ini_X4_f_state hb, List.forall_mem_cons.mpr ⟨ini_X4_sz0 hb, List.forall_mem_cons.mpr ⟨ini_X4_sz1 hb, List.forall_mem_cons.mpr ⟨ini_X4_sz2 hb, List.forall_mem_cons.mpr ⟨ini_X4_sz3 hb, List.forall_mem_cons.mpr ⟨ini_X4_r_cut0 hb, List.forall_mem_cons.mpr ⟨ini_X4_r_cut1 hb, List.forall_mem_cons.mpr ⟨ini_X4_r_cut2 hb, List.forall_mem_cons.mpr ⟨ini_X4_r_cut3 hb, List.forall_mem_cons.mpr ⟨ini_X4_r_pit0 hb, List.forall_mem_cons.mpr ⟨ini_X4_r_swell0 hb, List.forall_mem_cons.mpr ⟨ini_X4_r_pit1 hb, List.forall_mem_cons.mpr ⟨ini_X4_r_swell1 hb, List.forall_mem_cons.mpr ⟨ini_X4_r_fill0 hb, List.forall_mem_cons.mpr ⟨ini_X4_r_fill1 hb, List.forall_mem_cons.mpr ⟨ini_X4_r_fill2 hb, List.forall_mem_cons.mpr ⟨ini_X4_r_way0 hb, List.forall_mem_cons.mpr ⟨ini_X4_r_way1 hb, List.forall_mem_cons.mpr ⟨ini_X4_r_way2 hb, List.forall_mem_cons.mpr ⟨ini_X4_q_unit hb, List.forall_mem_cons.mpr ⟨ini_X4_a_reached hb, List.forall_mem_cons.mpr ⟨ini_X4_a_queue hb, List.forall_mem_cons.mpr ⟨ini_X4_a_from hb, List.forall_mem_cons.mpr ⟨ini_X4_a_far hb, List.forall_mem_cons.mpr ⟨ini_X7_f_groups hb, List.forall_mem_cons.mpr ⟨ini_X7_f_plans hb, List.forall_mem_cons.mpr ⟨ini_X7_f_signs hb, List.forall_mem_cons.mpr ⟨ini_X7_f_toldCount hb, List.forall_mem_cons.mpr ⟨ini_X7_f_proof hb, List.forall_mem_cons.mpr ⟨ini_X7_f_states hb, List.forall_mem_cons.mpr ⟨ini_X7_a_phases hb, List.forall_mem_cons.mpr ⟨ini_X7_q_phase hb, List.forall_mem_cons.mpr ⟨ini_X7_q_clear hb, List.forall_mem_cons.mpr ⟨ini_X7_a_slot hb, List.forall_mem_cons.mpr ⟨ini_X7_a_text hb, List.forall_mem_cons.mpr ⟨ini_X7_fd hb, List.forall_mem_cons.mpr ⟨ini_X7_r_found0 hb, List.forall_mem_cons.mpr ⟨ini_X7_m_machine0 hb, List.forall_mem_cons.mpr ⟨ini_X7_m_machine1 hb, List.forall_mem_cons.mpr ⟨ini_X7_m_machine2 hb, List.forall_mem_cons.mpr ⟨ini_X7_m_machine3 hb, List.forall_mem_cons.mpr ⟨ini_X7_m_machine4 hb, List.forall_mem_cons.mpr ⟨ini_X7_m_machine5 hb, List.forall_mem_cons.mpr ⟨ini_X7_m_machine6 hb, List.forall_mem_cons.mpr ⟨ini_X7_m_machine7 hb, List.forall_mem_cons.mpr ⟨ini_X7_m_machine8 hb, List.forall_mem_cons.mpr ⟨ini_X7_m_probe0 hb, List.forall_mem_cons.mpr ⟨ini_X7_m_probe1 hb, List.forall_mem_cons.mpr ⟨ini_X7_m_probe2 hb, List.forall_mem_cons.mpr ⟨ini_X7_m_probe3 hb, List.forall_mem_cons.mpr ⟨ini_X7_m_probe4 hb, List.forall_mem_cons.mpr ⟨ini_X7_m_probe5 hb, List.forall_mem_cons.mpr ⟨ini_X7_m_probe6 hb, List.forall_mem_cons.mpr ⟨ini_X7_m_probe7 hb, List.forall_mem_cons.mpr ⟨ini_X7_m_probe8 hb, List.forall_mem_cons.mpr ⟨ini_X7_last0 hb, List.forall_mem_cons.mpr ⟨ini_X7_wayf hb, List.forall_mem_cons.mpr ⟨ini_X7_st hb, List.forall_mem_cons.mpr ⟨ini_X7_st0 hb, List.forall_mem_cons.mpr ⟨ini_X7_st1 hb, List.forall_mem_cons.mpr ⟨ini_X7_st2 hb, List.forall_mem_cons.mpr ⟨ini_X7_st3 hb, List.forall_mem_cons.mpr ⟨ini_X7_st4 hb, List.forall_mem_cons.mpr ⟨ini_X8b_kd hb, List.forall_mem_cons.mpr ⟨ini_X8b_ka hb, List.forall_mem_cons.mpr ⟨ini_X8b_rf hb, List.forall_mem_cons.mpr ⟨ini_X8b_ln0 hb, List.forall_mem_cons.mpr ⟨ini_X8b_len hb, List.forall_mem_cons.mpr ⟨ini_X8b_sg hb, List.forall_mem_cons.mpr ⟨ini_X8b_lb hb, List.forall_mem_cons.mpr ⟨ini_X8b_top0 hb, List.forall_mem_cons.mpr ⟨ini_X8b_top1 hb, List.forall_mem_cons.mpr ⟨ini_X8_f_values hb, List.forall_mem_cons.mpr ⟨ini_X8_f_rests hb, List.forall_mem_cons.mpr ⟨ini_X8_f_turns hb, List.forall_mem_cons.mpr ⟨ini_X8_f_mends hb, List.forall_mem_cons.mpr ⟨ini_X8_f_repeats hb, List.forall_mem_cons.mpr ⟨ini_X8_f_crackSteps hb, List.forall_mem_cons.mpr ⟨ini_X8_a_lines hb, List.forall_mem_cons.mpr ⟨ini_X8_a_hot hb, List.forall_mem_cons.mpr ⟨ini_X8_a_cents hb, List.forall_mem_cons.mpr ⟨ini_X8_a_row hb, List.forall_mem_cons.mpr ⟨ini_X8_a_rest hb, List.forall_mem_cons.mpr ⟨ini_X8_a_anew hb, List.forall_mem_cons.mpr ⟨ini_X8_r_turn0 hb, List.forall_mem_cons.mpr ⟨ini_X8_r_turn1 hb, List.forall_mem_cons.mpr ⟨ini_X8_q_cycles hb, List.forall_mem_cons.mpr ⟨ini_X9b_kd hb, List.forall_mem_cons.mpr ⟨ini_X9b_ka hb, List.forall_mem_cons.mpr ⟨ini_X9b_rf hb, List.forall_mem_cons.mpr ⟨ini_X9b_ln0 hb, List.forall_mem_cons.mpr ⟨ini_X9b_ln1 hb, List.forall_mem_cons.mpr ⟨ini_X9b_lnx hb, List.forall_mem_cons.mpr ⟨ini_X9b_len hb, List.forall_mem_cons.mpr ⟨ini_X9b_sg hb, List.forall_mem_cons.mpr ⟨ini_X9b_lb hb, List.forall_mem_cons.mpr ⟨ini_X9b_top0 hb, List.forall_mem_cons.mpr ⟨ini_X9b_top1 hb, List.forall_mem_cons.mpr ⟨ini_X9_f_corners hb, List.forall_mem_cons.mpr ⟨ini_X9_f_trains hb, List.forall_mem_cons.mpr ⟨ini_X9_f_lanes hb, List.forall_mem_cons.mpr ⟨ini_X9_f_cases hb, List.forall_mem_cons.mpr ⟨ini_X9_f_signs hb, List.forall_mem_cons.mpr ⟨ini_X9_a_axles hb, List.forall_mem_cons.mpr ⟨ini_X9_r_corner0 hb, List.forall_mem_cons.mpr ⟨ini_X9_r_corner1 hb, List.forall_mem_cons.mpr ⟨ini_X9_r_corner2 hb, List.forall_mem_cons.mpr ⟨ini_X9_at hb, List.forall_mem_cons.mpr ⟨ini_X9_bh hb, List.forall_mem_cons.mpr ⟨ini_X9_q_load hb, List.forall_mem_cons.mpr ⟨ini_X9_r_gap0 hb, List.forall_mem_cons.mpr ⟨ini_X9_r_gap1 hb, List.forall_mem_cons.mpr ⟨ini_X9_p6 hb, List.forall_mem_cons.mpr ⟨ini_X9_r_lane0 hb, List.forall_mem_cons.mpr ⟨ini_X9_r_lane1 hb, List.forall_mem_cons.mpr ⟨ini_X12_f_w hb, List.forall_mem_cons.mpr ⟨ini_X12_f_h hb, List.forall_mem_cons.mpr ⟨ini_X12_f_reach hb, List.forall_mem_cons.mpr ⟨ini_X12_f_slope hb, List.forall_mem_cons.mpr ⟨ini_X12_f_turn hb, List.forall_mem_cons.mpr ⟨ini_X12_f_first hb, List.forall_mem_cons.mpr ⟨ini_X12_f_goal hb, List.forall_mem_cons.mpr ⟨ini_X12_f_most hb, List.forall_mem_cons.mpr ⟨ini_X12_f_found hb, List.forall_mem_cons.mpr ⟨ini_X12_a_belows hb, List.forall_mem_cons.mpr ⟨ini_X12_a_aboves hb, List.forall_mem_cons.mpr ⟨ini_X12_a_costs hb, List.forall_mem_cons.mpr ⟨ini_X12_a_levels hb, List.forall_mem_cons.mpr ⟨ini_X12_a_mosts hb, List.forall_mem_cons.mpr ⟨ini_X12_a_cents hb, List.forall_mem_cons.mpr ⟨ini_X12_a_values hb, List.forall_mem_cons.mpr ⟨ini_X12_a_marks hb, List.forall_mem_cons.mpr ⟨ini_X12_a_zones hb, List.forall_mem_cons.mpr ⟨ini_X12_a_firsts hb, List.forall_mem_cons.mpr ⟨ini_X12_a_moves hb, List.forall_mem_cons.mpr ⟨ini_X12_a_movesf hb, List.forall_mem_cons.mpr ⟨ini_X12_a_headings hb, List.forall_mem_cons.mpr ⟨ini_X12_f_proved hb, List.forall_mem_cons.mpr ⟨ini_X12_a_best hb, List.forall_mem_cons.mpr ⟨ini_X12_a_bestTurns hb, List.forall_mem_cons.mpr ⟨ini_X12_a_bestMoves hb, List.forall_mem_cons.mpr ⟨opq_ini 1 (by decide) hb, List.forall_mem_cons.mpr ⟨ini_X13_f_cuts hb, List.forall_mem_cons.mpr ⟨ini_X13_f_pits hb, List.forall_mem_cons.mpr ⟨ini_X13_f_fills hb, List.forall_mem_cons.mpr ⟨ini_X13_f_ways hb, List.forall_mem_cons.mpr ⟨ini_X13_f_arcs hb, List.forall_mem_cons.mpr ⟨ini_X13_a_cutVolume hb, List.forall_mem_cons.mpr ⟨ini_X13_a_cutKind hb, List.forall_mem_cons.mpr ⟨ini_X13_a_cutWeek hb, List.forall_mem_cons.mpr ⟨ini_X13_a_cutMetre hb, List.forall_mem_cons.mpr ⟨ini_X13_a_pitMetre hb, List.forall_mem_cons.mpr ⟨ini_X13_a_pitCents hb, List.forall_mem_cons.mpr ⟨ini_X13_a_fillVolume hb, List.forall_mem_cons.mpr ⟨ini_X13_a_fillWeek hb, List.forall_mem_cons.mpr ⟨ini_X13_a_fillMetre hb, List.forall_mem_cons.mpr ⟨ini_X13_a_wayFrom hb, List.forall_mem_cons.mpr ⟨ini_X13_a_wayTo hb, List.forall_mem_cons.mpr ⟨ini_X13_a_wayCents hb, List.forall_mem_cons.mpr ⟨ini_X13_a_above hb, List.forall_mem_cons.mpr ⟨ini_X13_a_below hb, List.forall_mem_cons.mpr ⟨ini_X13_a_begin hb, List.forall_mem_cons.mpr ⟨ini_X13_a_finish hb, List.forall_mem_cons.mpr ⟨ini_X13_a_by hb, List.forall_mem_cons.mpr ⟨ini_X13_a_mosts hb, List.forall_mem_cons.mpr ⟨opq_ini 2 (by decide) hb, List.forall_mem_cons.mpr ⟨ini_X15_f_letters hb, List.forall_mem_cons.mpr ⟨ini_X15_f_words hb, List.forall_mem_cons.mpr ⟨ini_X15_f_items hb, List.forall_mem_cons.mpr ⟨ini_X15_f_shapes hb, List.forall_mem_cons.mpr ⟨ini_X15_f_entries hb, List.forall_mem_cons.mpr ⟨ini_X15_f_changes hb, List.forall_mem_cons.mpr ⟨ini_X15_f_penalties hb, List.forall_mem_cons.mpr ⟨ini_X15_f_troubles hb, List.forall_mem_cons.mpr ⟨ini_X15_f_keptBelow hb, List.forall_mem_cons.mpr ⟨ini_X15_f_backMonth hb, List.forall_mem_cons.mpr ⟨ini_X15_a_begins hb, List.forall_mem_cons.mpr ⟨ini_X15_a_ends hb, List.forall_mem_cons.mpr ⟨ini_X15_a_below hb, List.forall_mem_cons.mpr ⟨ini_X15_a_weights hb, List.forall_mem_cons.mpr ⟨ini_X15_a_text hb, List.forall_mem_cons.mpr ⟨ini_X15_a_kept hb, List.forall_mem_cons.mpr ⟨ini_X15_a_change hb, List.forall_mem_cons.mpr ⟨ini_X15_ws hb, List.forall_mem_cons.mpr ⟨ini_X15_nm hb, List.forall_mem_cons.mpr ⟨ini_X15_ft hb, List.forall_mem_cons.mpr ⟨ini_X15_st hb, List.forall_mem_cons.mpr ⟨ini_X15_nl hb, List.forall_mem_cons.mpr ⟨ini_X15_ei hb, List.forall_mem_cons.mpr ⟨ini_X15_es hb, List.forall_mem_cons.mpr ⟨ini_X15_ew hb, List.forall_mem_cons.mpr ⟨ini_X15_we hb, List.forall_mem_cons.mpr ⟨ini_X15_ie hb, List.forall_mem_cons.mpr ⟨ini_X15_Kk hb, List.forall_mem_cons.mpr ⟨ini_X15_Kb hb, List.forall_mem_cons.mpr ⟨ini_X15_Kv hb, List.forall_mem_cons.mpr ⟨ini_X15_Kp hb, List.forall_mem_cons.mpr ⟨ini_X15_Kq hb, List.forall_mem_cons.mpr ⟨ini_X15_Ks hb, List.forall_mem_cons.mpr ⟨ini_X15_K0 hb, List.forall_mem_cons.mpr ⟨ini_X15_K1 hb, List.forall_mem_cons.mpr ⟨ini_X15_K2 hb, List.forall_mem_cons.mpr ⟨ini_X15_K3 hb, List.forall_mem_cons.mpr ⟨ini_X15_K4 hb, List.forall_mem_cons.mpr ⟨ini_X15_K5 hb, List.forall_mem_cons.mpr ⟨ini_X15_K5a hb, List.forall_mem_cons.mpr ⟨ini_X15_K5c hb, List.forall_mem_cons.mpr ⟨ini_X15_Ke hb, List.forall_mem_cons.mpr ⟨ini_X16_f_n hb, List.forall_mem_cons.mpr ⟨ini_X16_f_plans hb, List.forall_mem_cons.mpr ⟨ini_X16_f_size hb, List.forall_mem_cons.mpr ⟨ini_X16_f_many hb, List.forall_mem_cons.mpr ⟨ini_X16_f_found hb, List.forall_mem_cons.mpr ⟨ini_X16_f_proof hb, List.forall_mem_cons.mpr ⟨ini_X16_f_faultFrom hb, List.forall_mem_cons.mpr ⟨ini_X16_f_faultBy hb, List.forall_mem_cons.mpr ⟨ini_X16_a_phases hb, List.forall_mem_cons.mpr ⟨ini_X16_now_state hb, List.forall_mem_cons.mpr ⟨ini_X16_nowf_state hb, List.forall_mem_cons.mpr ⟨ini_X16_next_state hb, List.forall_mem_cons.mpr ⟨ini_X16_nextf_state hb, List.forall_mem_cons.mpr ⟨ini_X16_wanted_state hb, List.forall_mem_cons.mpr ⟨ini_X16_left_state hb, List.forall_mem_cons.mpr ⟨ini_X16_wt_state hb, List.forall_mem_cons.mpr ⟨ini_X16_now_machine hb, List.forall_mem_cons.mpr ⟨ini_X16_nowf_machine hb, List.forall_mem_cons.mpr ⟨ini_X16_next_machine hb, List.forall_mem_cons.mpr ⟨ini_X16_nextf_machine hb, List.forall_mem_cons.mpr ⟨ini_X16_wanted_machine hb, List.forall_mem_cons.mpr ⟨ini_X16_left_machine hb, List.forall_mem_cons.mpr ⟨ini_X16_wt_machine hb, List.forall_mem_cons.mpr ⟨ini_X16_now_rows hb, List.forall_mem_cons.mpr ⟨ini_X16_nowf_rows hb, List.forall_mem_cons.mpr ⟨ini_X16_next_rows hb, List.forall_mem_cons.mpr ⟨ini_X16_nextf_rows hb, List.forall_mem_cons.mpr ⟨ini_X16_wanted_rows hb, List.forall_mem_cons.mpr ⟨ini_X16_left_rows hb, List.forall_mem_cons.mpr ⟨ini_X16_wt_rows hb, List.forall_mem_cons.mpr ⟨ini_X16_from hb, List.forall_mem_cons.mpr ⟨ini_X16_a_by hb, List.forall_mem_cons.mpr ⟨ini_X16_a_text hb, List.forall_mem_cons.mpr ⟨ini_X16_a_leads hb, List.forall_mem_cons.mpr ⟨ini_X16_lf hb, List.forall_mem_cons.mpr ⟨ini_X16_pp hb, List.forall_mem_cons.mpr ⟨ini_X16_ff hb, List.forall_mem_cons.mpr ⟨ini_X16_whatb hb, List.forall_mem_cons.mpr ⟨ini_X17_f_n hb, List.forall_mem_cons.mpr ⟨ini_X17_f_joins hb, List.forall_mem_cons.mpr ⟨ini_X17_f_entries hb, List.forall_mem_cons.mpr ⟨ini_X17_f_settings hb, List.forall_mem_cons.mpr ⟨ini_X17_f_measures hb, List.forall_mem_cons.mpr ⟨ini_X17_f_rules hb, List.forall_mem_cons.mpr ⟨ini_X17_f_saves hb, List.forall_mem_cons.mpr ⟨ini_X17_a_entry hb, List.forall_mem_cons.mpr ⟨ini_X17_a_setting5 hb, List.forall_mem_cons.mpr ⟨ini_X17_a_rule0 hb, List.forall_mem_cons.mpr ⟨ini_X17_a_rule2 hb, List.forall_mem_cons.mpr ⟨ini_X17_a_measure0 hb, List.forall_mem_cons.mpr ⟨ini_X17_a_measure1 hb, List.forall_mem_cons.mpr ⟨ini_X17_a_below hb, List.forall_mem_cons.mpr ⟨ini_X17_a_least hb, List.forall_mem_cons.mpr ⟨ini_X17_clock hb, List.forall_mem_cons.mpr ⟨ini_X17_clocks hb, List.forall_mem_cons.mpr ⟨ini_X18_f_mends hb, List.forall_mem_cons.mpr ⟨ini_X18_f_above hb, List.forall_mem_cons.mpr ⟨ini_X18_f_below hb, List.forall_mem_cons.mpr ⟨ini_X18_f_crackSteps hb, List.forall_mem_cons.mpr ⟨ini_X18_count hb, List.forall_mem_cons.mpr ⟨ini_X18_a_lines hb, List.forall_mem_cons.mpr ⟨ini_X18_cyc hb, List.forall_mem_cons.mpr ⟨ini_X18_hal hb, List.forall_mem_cons.mpr ⟨opq_ini 3 (by decide) hb, List.forall_mem_cons.mpr ⟨ini_X20_f_places hb, List.forall_mem_cons.mpr ⟨ini_X20_a_cells hb, List.forall_mem_cons.mpr ⟨ini_X20_mt hb, List.forall_mem_cons.mpr ⟨ini_X20_a_lengths hb, fun k hk => absurd hk List.not_mem_nil⟩⟩⟩⟩⟩⟩⟩⟩⟩⟩⟩⟩⟩⟩⟩⟩⟩⟩⟩⟩⟩⟩⟩⟩⟩⟩⟩⟩⟩⟩⟩⟩⟩⟩⟩⟩⟩⟩⟩⟩⟩⟩⟩⟩⟩⟩⟩⟩⟩⟩⟩⟩⟩⟩⟩⟩⟩⟩⟩⟩⟩⟩⟩⟩⟩⟩⟩⟩⟩⟩⟩⟩⟩⟩⟩⟩⟩⟩⟩⟩⟩⟩⟩⟩⟩⟩⟩⟩⟩⟩⟩⟩⟩⟩⟩⟩⟩⟩⟩⟩⟩⟩⟩⟩⟩⟩⟩⟩⟩⟩⟩⟩⟩⟩⟩⟩⟩⟩⟩⟩⟩⟩⟩⟩⟩⟩⟩⟩⟩⟩⟩⟩⟩⟩⟩⟩⟩⟩⟩⟩⟩⟩⟩⟩⟩⟩⟩⟩⟩⟩⟩⟩⟩⟩⟩⟩⟩⟩⟩⟩⟩⟩⟩⟩⟩⟩⟩⟩⟩⟩⟩⟩⟩⟩⟩⟩⟩⟩⟩⟩⟩⟩⟩⟩⟩⟩⟩⟩⟩⟩⟩⟩⟩⟩⟩⟩⟩⟩⟩⟩⟩⟩⟩⟩⟩⟩⟩⟩⟩⟩⟩⟩⟩⟩⟩⟩⟩⟩⟩⟩⟩⟩⟩⟩⟩⟩⟩⟩⟩⟩⟩⟩⟩⟩⟩⟩⟩⟩⟩⟩⟩⟩⟩⟩⟩⟩⟩⟩⟩⟩⟩⟩⟩⟩⟩⟩⟩⟩⟩⟩⟩⟩⟩⟩⟩⟩⟩⟩⟩⟩⟩⟩⟩⟩⟩⟩⟩⟩⟩⟩⟩⟩⟩⟩⟩⟩⟩⟩⟩⟩⟩⟩⟩⟩⟩⟩⟩⟩⟩⟩⟩⟩⟩⟩⟩⟩⟩⟩⟩⟩⟩⟩⟩⟩⟩⟩⟩⟩⟩⟩⟩⟩⟩⟩⟩⟩⟩⟩⟩⟩⟩⟩⟩⟩⟩⟩⟩⟩⟩⟩⟩⟩⟩⟩⟩⟩⟩⟩⟩⟩⟩⟩⟩⟩⟩⟩⟩⟩⟩⟩⟩⟩⟩⟩⟩⟩⟩⟩⟩⟩⟩⟩⟩⟩⟩⟩⟩⟩⟩⟩⟩⟩⟩⟩⟩⟩⟩⟩⟩⟩⟩⟩⟩⟩⟩⟩⟩
theorem gz_lit {c j : Nat} {v : Int} (hj : j < 1099511627776) (e : (cAt hLit c).map (fun q => cvl q j) = some v) (hb : MH) : gz (cMH hb hLit) (c : Int) (j : Int) = v := by
  rw [ga_gz (Int.natCast_nonneg j) (by omega)]
  cases h : cAt hLit c with
  | none => rw [h] at e; cases e
  | some q =>
    rw [h] at e
    show ((cMH hb hLit).2 c).2.2 (Int.toNat (j : Int)) = v
    rw [cMH_at h, Int.toNat_natCast]
    exact Option.some.inj e
theorem gz_low {c : Nat} {j : Int} (h4 : c < 4) (j0 : 0 ≤ j) (j1 : j < 1099511627776) (hb : MH) : gz (cMH hb hLit) (c : Int) j = (hb.2 c).2.2 j.toNat := by
  rw [ga_gz j0 j1]
  show ((match cAt hLit c with
    | some c => cMC c
    | none => hb.2 c) : MC).2.2 j.toNat = _
  have e : cAt hLit c = none := by
    unfold cAt
    rw [bltT h4]
    rfl
  rw [e]
theorem low_at {c : Nat} (h4 : c < 4) (hb : MH) : (cMH hb hLit).2 c = hb.2 c := by
  show (match cAt hLit c with
    | some c => cMC c
    | none => hb.2 c) = _
  have e : cAt hLit c = none := by
    unfold cAt
    rw [bltT h4]
    rfl
  rw [e]
set_option maxRecDepth 100000 in
theorem litE8 : ∀ c : Nat, c < 8 → (cAt hLit 791).map (fun q => cvl q c) = some 0 := by decide +kernel
set_option maxRecDepth 100000 in
theorem litR : ∀ c : Nat, c < 8 → (cAt hLit 2540).map (fun q => cvl q c) = some 0 := by decide +kernel
set_option maxRecDepth 100000 in
theorem litF : (cAt hLit 27).map (fun q => cvl q 3) = some 30 ∧ (cAt hLit 30).map (fun q => (cMC q).2.1) = some 1 ∧ (cAt hLit 1319).map (fun q => cvl q 2) = some 0 ∧ (cAt hLit 2570).map (fun q => cvl q 6) = some 0 := by decide +kernel
/-- the four cells that were there before -/
def hbS0 (N : Nat) (xs : Nat → Int) (dx dy ln : Nat → Int) : MH := (4, fun a => match a with
  | 0 => (0, N, xs)
  | 1 => (0, 16, dx)
  | 2 => (0, 16, dy)
  | _ => (0, 16, ln))
def dxv (j : Nat) : Int := match [1, 2, 1, 1, 0, -1, -1, -2, -1, -2, -1, -1, 0, 1, 1, 2][j]? with
  | some v => v
  | none => 0
def dyv (j : Nat) : Int := match [0, 1, 1, 2, 1, 2, 1, 1, 0, -1, -1, -2, -1, -2, -1, -1][j]? with
  | some v => v
  | none => 0
def lnv (j : Nat) : Int := match [10, 22, 14, 22, 10, 22, 14, 22, 10, 22, 14, 22, 10, 22, 14, 22][j]? with
  | some v => v
  | none => 0
theorem wv_ok : ∀ j : Nat, j < 16 → (-2 ≤ dxv j ∧ dxv j ≤ 2) ∧ (-2 ≤ dyv j ∧ dyv j ≤ 2) ∧ (10 ≤ lnv j ∧ lnv j ≤ 22) := by decide
theorem LI.start {N : Nat} {xs : Nat → Int} {hb : MH} (a : ag4 (hbS0 N xs dxv dyv lnv) hb) : LI N 0 (cMH hb hLit) ∧ Phi (cMH hb hLit) = 548352 := by
  have s := strz_start (hb := hb) (fun c c1 c4 => by
    rw [a c c4]
    rcases (show c = 1 ∨ c = 2 ∨ c = 3 by omega) with rfl | rfl | rfl <;> exact ⟨rfl, rfl⟩)
  have w : ∀ j : Int, 0 ≤ j → j ≤ 15 → gz (cMH hb hLit) 1 j = dxv j.toNat ∧ gz (cMH hb hLit) 2 j = dyv j.toNat ∧ gz (cMH hb hLit) 3 j = lnv j.toNat := fun j j0 j1 => by
    refine ⟨(gz_low (c := 1) (by decide) j0 (by omega) hb).trans ?_, (gz_low (c := 2) (by decide) j0 (by omega) hb).trans ?_, (gz_low (c := 3) (by decide) j0 (by omega) hb).trans ?_⟩
    · rw [a 1 (by decide)]; rfl
    · rw [a 2 (by decide)]; rfl
    · rw [a 3 (by decide)]; rfl
  have J : JJ zJ (cMH hb hLit) := ⟨s, zJ_ini (way1_of fun j j0 j1 => by rw [(w j j0 j1).1]; exact (wv_ok j.toNat (by omega)).1) (way2_of fun j j0 j1 => by rw [(w j j0 j1).2.1]; exact (wv_ok j.toNat (by omega)).2.1) (way3_of fun j j0 j1 => by rw [(w j j0 j1).2.2]; exact (wv_ok j.toNat (by omega)).2.2)⟩
  have f1 : gz (cMH hb hLit) 27 3 = 30 := gz_lit (c := 27) (j := 3) (by decide) litF.1 hb
  have f2 : ((cMH hb hLit).2 30).2.1 = 1 := by
    have e := litF.2.1
    cases h : cAt hLit 30 with
    | none => rw [h] at e; cases e
    | some q =>
      rw [h] at e
      rw [cMH_at h]
      exact Option.some.inj e
  have f3 : gz (cMH hb hLit) 1319 2 = 0 := gz_lit (c := 1319) (j := 2) (by decide) litF.2.2.1 hb
  have f4 : gz (cMH hb hLit) 2570 6 = 0 := gz_lit (c := 2570) (j := 6) (by decide) litF.2.2.2 hb
  have q8 : ∀ c : Int, 0 ≤ c → c < 8 → ln8 (cMH hb hLit) c = 0 ∧ lnR (cMH hb hLit) c = 0 := fun c c0 c8 => by
    have z1 := gz_lit (c := 791) (j := c.toNat) (by omega) (litE8 c.toNat (by omega)) hb
    have z2 := gz_lit (c := 2540) (j := c.toNat) (by omega) (litR c.toNat (by omega)) hb
    rw [Int.toNat_of_nonneg c0] at z1 z2
    exact ⟨z1, z2⟩
  refine ⟨⟨J, ?_, by rw [f3]; decide, by rw [f4]; decide, ⟨fun c c0 c8 => ⟨by rw [(q8 c c0 c8).1, (q8 c c0 c8).2], fun k k0 k1 => ?_⟩, fun c c0 c8 => ?_⟩⟩, ?_⟩
  · rw [low_at (by decide) hb, a 0 (by decide)]
    exact ⟨rfl, rfl⟩
  · rw [(q8 c c0 c8).1] at k1
    omega
  · rw [(q8 c c0 c8).1]
    exact ⟨by omega, fun k k0 k1 => by omega, fun k k0 k1 => by omega⟩
  · unfold Phi gLen
    rw [f1]
    rw [show (30 : Int).toNat = 30 from rfl, f2]
    rfl
/-- from the law's entry on, on a heap told by numbers -/
theorem law_all {N : Nat} (hN : N ≤ 448) (xs : Nat → Int) : MW KL_law Qf room_1.cells room_1.slots (pcA pgL_law 0) [(0, (2, ((0 : Nat) : Int)))] [] (hbS0 N xs dxv dyv lnv) := by
  refine law_pre rfl (fun hb mc ms a hmc hms => ?_)
  obtain ⟨I, ph⟩ := LI.start a
  refine lw_loop hN 64 0 _ mc ms (by omega) I ?_
  unfold RM
  rw [ph]
  exact ⟨by omega, by omega⟩
