/-! from the division by hand to the contracts -/
theorem zref17 {c j : Nat} (k : zKind c = 17) (h : zRef c j ≠ 0) : j = 0 := by
  unfold zRef at h
  rw [k] at h
  by_cases q : j = 0
  · exact q
  · exfalso
    have e : Nat.beq j 0 = false := by
      cases w : Nat.beq j 0 with
      | false => rfl
      | true => exact absurd (beqN w) q
    apply h
    cases (Nat.blt c 2628 && (Nat.ble 1 c && Nat.ble 16 17)) with
    | false => rfl
    | true =>
      show (bif Nat.beq 17 17 then (bif Nat.beq j 0 then c + 1 else 0) else zRefT c j) = 0
      rw [e]
      rfl
theorem zref0 {c : Nat} (k : zKind c = 0) (j : Nat) : zRef c j = 0 := by
  unfold zRef
  rw [k, show Nat.ble 16 0 = false from rfl, Bool.and_false, Bool.and_false]
  rfl
theorem zrow0 {c : Nat} (k : zKind c = 0 ∨ zKind c = 17) : (zRow c).2 = 0 := by
  unfold zRow
  rcases k with k | k
  · rw [k, show (Nat.ble 6 0 && Nat.blt 0 16) = false from rfl, Bool.and_false, Bool.and_false]
    rfl
  · rw [k, show (Nat.ble 6 17 && Nat.blt 17 16) = false from rfl, Bool.and_false, Bool.and_false]
    rfl
theorem sg_mul {a b : Int} (ha : -1 ≤ a ∧ a ≤ 1) (hb : -1 ≤ b ∧ b ≤ 1) : -1 ≤ a * b ∧ a * b ≤ 1 := by
  rcases (show a = -1 ∨ a = 0 ∨ a = 1 by omega) with w | w | w <;> rw [w] <;> omega
theorem inR {a b c j : Nat} (h1 : a ≤ c) (h2 : c ≤ b) (hj : j < 1099511627776) : inZ (a, b, 0, 1099511627775) (c : Int) (j : Int) := ⟨⟨by show (a : Int) ≤ _; omega, Or.inr (by show _ ≤ (b : Int); omega)⟩, Or.inr ⟨by show ((0 : Nat) : Int) ≤ _; omega, by show (j : Int) ≤ ((1099511627775 : Nat) : Int); omega⟩⟩
theorem lv9 (ρ : Nat → Int) (a b : Int) : ∀ v, zmem v [60002, 60003] = false → (bif Nat.beq v 60003 then a else bif Nat.beq v 60002 then b else ρ v) = ρ v := fun v hv => by
  have e1 : Nat.beq v 60003 = false := by
    cases e : Nat.beq v 60003 with
    | false => rfl
    | true =>
      have := beqN e
      subst this
      exact absurd hv (by decide)
  have e2 : Nat.beq v 60002 = false := by
    cases e : Nat.beq v 60002 with
    | false => rfl
    | true =>
      have := beqN e
      subst this
      exact absurd hv (by decide)
  rw [e1, e2]
  rfl
def ct_X1_divide_X0lo : ZCt := (60, [(2, (197, [(80, 2)])), (2, (197, [(81, 2)])), (2, (205, [])), (2, (207, []))], [((197, [(80, 2)]), (1, []), 50)], [(0, [(80, 1)]), (3, [(80, (-1))]), (0, [(81, 1)]), (3, [(81, (-1))])], [zi_X0b_kd, zi_X0b_ka, zi_X0b_rf, zi_X0b_ln0, zi_X0b_ln1, zi_X0b_ln2, zi_X0b_ln3, zi_X0b_lnx, zi_X0b_len, zi_X0b_sg, zi_X0b_lb, zi_X0b_top0, zi_X0b_top1], [(197, 204, 0, 1099511627775), (205, 206, 0, 1099511627775), (208, 208, 0, 1099511627775)], none, [((205, []), (1, []), 201)], [(0, [(50, 1), (201, (-1))])], [], [zi_X0b_rf, zi_X0b_len, zi_X0b_sg, zi_X0b_lb, zi_X0b_top0, zi_X0b_top1], [([60002, 60003], [((197, 204, 1, 1), (197, [(81, 2)]), (1, []), (0, [(60002, 1)])), ((197, 204, 0, 1099511627775), (198, [(81, 2)]), ((-1), [(60002, 1)]), (0, [(60003, 1)]))], [((-1), [(60002, 1)])], [((-1), [(60003, 1)])])], [], 0, 0, [80, 81])
set_option maxRecDepth 100000 in
set_option maxHeartbeats 4000000 in
theorem ok_X1_divide_X0lo : CtOk zG zT ct_X1_divide_X0lo := by
  refine ⟨by decide +kernel, fun q hq ρ h st hE hF hV hL => ?_⟩
  cases (show some ((KX1_divide, yX1_divide, 1, 3, 0) : MR) = some q from hq)
  have f0 : (0 : Int) ≤ 0 + (1 * ρ 80 + 0) := hF _ (List.mem_of_getElem? (i := 0) rfl)
  have f1 : (0 : Int) ≤ 3 + ((-1) * ρ 80 + 0) := hF _ (List.mem_of_getElem? (i := 1) rfl)
  have f2 : (0 : Int) ≤ 0 + (1 * ρ 81 + 0) := hF _ (List.mem_of_getElem? (i := 2) rfl)
  have f3 : (0 : Int) ≤ 3 + ((-1) * ρ 81 + 0) := hF _ (List.mem_of_getElem? (i := 3) rfl)
  obtain ⟨k, ek⟩ : ∃ k : Nat, ρ 80 = (k : Int) := ⟨(ρ 80).toNat, by omega⟩
  obtain ⟨k0, ek0⟩ : ∃ k : Nat, ρ 81 = (k : Int) := ⟨(ρ 81).toNat, by omega⟩
  have hk : 0 ≤ k ∧ k ≤ 3 := by omega
  have hk0 : 0 ≤ k0 ∧ k0 ≤ 3 := by omega
  have fb := FBX0.of st (hV zi_X0b_len (List.mem_of_getElem? (i := 8) rfl)) (hV zi_X0b_sg (List.mem_of_getElem? (i := 9) rfl)) (hV zi_X0b_lb (List.mem_of_getElem? (i := 10) rfl)) (hV zi_X0b_top0 (List.mem_of_getElem? (i := 11) rfl)) (hV zi_X0b_top1 (List.mem_of_getElem? (i := 12) rfl))
  obtain ⟨s1, l1, d1, g1, t1⟩ := fb k (by omega)
  obtain ⟨s2, l2, d2, g2, t2⟩ := fb k0 (by omega)
  obtain ⟨s3, l3, d3, g3, t3⟩ := fb 4 (by decide)
  obtain ⟨s4, l4, d4, g4, t4⟩ := fb 5 (by decide)
  have eA : ((kA ct_X1_divide_X0lo).map fun q => (q.1, zv ρ q.2) : List MV) = [(2, ((197 + 2 * k : Nat) : Int)), (2, ((197 + 2 * k0 : Nat) : Int)), (2, ((197 + 2 * 4 : Nat) : Int)), (2, ((197 + 2 * 5 : Nat) : Int))] := by
    show ([(2, 197 + (2 * ρ 80 + 0)), (2, 197 + (2 * ρ 81 + 0)), (2, 205 + 0), (2, 207 + 0)] : List MV) = _
    rw [ek, ek0, show (197 + (2 * (k : Int) + 0) : Int) = ((197 + 2 * k : Nat) : Int) by omega, show (197 + (2 * (k0 : Int) + 0) : Int) = ((197 + 2 * k0 : Nat) : Int) by omega]
    rfl
  show MCal KX1_divide yX1_divide _ _ _ h _
  rw [eA]
  have em : gz h (197 + (2 * ρ 80 + 0)) (1 + 0) = ρ 50 := hE _ (List.mem_of_getElem? (i := 0) rfl)
  rw [ek, show (197 + (2 * (k : Int) + 0) : Int) = ((197 + 2 * k : Nat) : Int) by omega, show (1 + 0 : Int) = 1 by decide, ga_gz (c := 197 + 2 * k) (i := 1) (by decide) (by decide)] at em
  have r_k := rmX0_b k
  have r_k0 := rmX0_b k0
  have tv := t2 (Or.inl (by omega))
  have G : G1 [(197 + 2 * k, rmX0 k), (197 + 2 * k0, rmX0 k0), (197 + 2 * 4, rmX0 4), (197 + 2 * 5, rmX0 5)] h := fun qq hq => by
    simp only [List.mem_cons, List.not_mem_nil, or_false] at hq
    rcases hq with rfl | rfl | rfl | rfl
    · exact s1
    · exact s2
    · exact s3
    · exact s4
  have r4 := rmX0_b 4
  have r5 := rmX0_b 5
  refine MCal.mono (fun o h' w => ?_) (h_X1_divide (o := 197 + 2 * k) (W := rmX0 k) (v := 197 + 2 * k0) (V := rmX0 k0) (q := 197 + 2 * 4) (Y := rmX0 4) (s := 197 + 2 * 5) (Z := rmX0 5) (by omega) (by omega) (by omega) (by omega) (by omega) (by omega) (by omega) (by omega) (by
    by_cases w : k = k0
    · subst w
      exact Or.inl ⟨rfl, rfl⟩
    · omega) (by omega) (by omega) (by omega) (by omega) (by omega) d1 d2 d3 d4 l1 l2 tv g1 g2 G)
  obtain ⟨o1, oo, gg, e1, e2, e3, dv⟩ := w
  have sm := sg_mul g1 g2
  have ne : ∀ c : Nat, c ≠ 197 + 2 * k → c ≠ 197 + 2 * k + 1 → c ≠ 197 + 2 * 4 → c ≠ 197 + 2 * 4 + 1 → c ≠ 197 + 2 * 5 + 1 → ga h' c = ga h c := fun c a1 a2 a3 a4 a5 => onlyF oo (by simp only [List.mem_cons, List.not_mem_nil, or_false, not_or]; exact ⟨a1, a2, a3, a4, a5⟩)
  have fb2 : FBX0 h' := fun j hj => by
    by_cases q1 : j = k
    · subst q1
      refine ⟨gg _ List.mem_cons_self, ?_, e1, ?_, fun t => ?_⟩
      · rcases dv with ⟨_, _, _, w, _⟩ | ⟨nE, _, _, _, _, w, _⟩
        · rw [w]; exact l1
        · omega
      · rcases dv with ⟨_, _, _, w, _⟩ | ⟨nE, _, _, _, _, _, _, _, w⟩
        · rw [w]; exact g1
        · rw [w]
          split
          · decide
          · exact g1
      · rcases dv with ⟨_, _, _, w, w2⟩ | ⟨nE, _, _, _, _, _, _, w, _⟩
        · rw [w, w2]; exact t1 t
        · exact w
    · by_cases q2 : j = 4
      · subst q2
        refine ⟨gg _ (List.mem_cons_of_mem _ (List.mem_cons_of_mem _ List.mem_cons_self)), ?_, e2, ?_, fun t => ?_⟩
        · rcases dv with ⟨_, w, _⟩ | ⟨nE, w, _⟩
          · rw [w]; omega
          · omega
        · rcases dv with ⟨_, _, w, _⟩ | ⟨nE, _, _, _, w, _⟩
          · rw [w]; decide
          · rw [w]
            split
            · decide
            · exact sm
        · rcases dv with ⟨_, w, _⟩ | ⟨nE, _, _, w, _⟩
          · intro z
            omega
          · exact w
      · by_cases q3 : j = 5
        · subst q3
          have w := ne (197 + 2 * 5) (by omega) (by omega) (by omega) (by omega) (by omega)
          refine ⟨gg _ (List.mem_cons_of_mem _ (List.mem_cons_of_mem _ (List.mem_cons_of_mem _ List.mem_cons_self))), by rw [w]; exact l4, e3, by rw [w]; exact g4, fun t => ?_⟩
          exfalso
          omega
        · obtain ⟨s9, l9, d9, g9, t9⟩ := fb j hj
          have w := ne (197 + 2 * j) (by omega) (by omega) (by omega) (by omega) (by omega)
          have w2 := ne (197 + 2 * j + 1) (by omega) (by omega) (by omega) (by omega) (by omega)
          refine ⟨s9.only oo (by simp only [List.mem_cons, List.not_mem_nil, or_false, not_or]; omega), ?_, ?_, ?_, ?_⟩
          · rw [w]; exact l9
          · rw [w2]; exact d9
          · rw [w]; exact g9
          · rw [w, w2]; exact t9
  have tb1 := tbX0 k (by omega)
  have tb4 := tbX0 4 (by decide)
  have tb5 := tbX0 5 (by decide)
  have S : StrZ zT h' := by
    refine strz_only st oo (fun c hc j n => ?_) (fun c hc => ?_)
    · simp only [List.mem_cons, List.not_mem_nil, or_false] at hc
      rcases hc with rfl | rfl | rfl | rfl | rfl
      · rw [zref17 tb1.1 n, (fb2 k (by omega)).1.2.2, s1.2.2]
      · exact absurd (zref0 tb1.2.1 j) n
      · rw [zref17 tb4.1 n, (fb2 4 (by decide)).1.2.2, s3.2.2]
      · exact absurd (zref0 tb4.2.1 j) n
      · exact absurd (zref0 tb5.2.1 j) n
    · simp only [List.mem_cons, List.not_mem_nil, or_false] at hc
      rcases hc with rfl | rfl | rfl | rfl | rfl
      · exact zrow0 (Or.inr tb1.1)
      · exact zrow0 (Or.inl tb1.2.1)
      · exact zrow0 (Or.inr tb4.1)
      · exact zrow0 (Or.inl tb4.2.1)
      · exact zrow0 (Or.inl tb5.2.1)
  have F : Frm (kMd ct_X1_divide_X0lo) h h' := by
    refine frm_only2 oo fun c hc j jb n => ?_
    exfalso
    simp only [List.mem_cons, List.not_mem_nil, or_false] at hc
    rcases hc with hc | hc | hc | hc | hc
    · exact n _ (List.mem_of_getElem? (i := 0) rfl) (inR (by omega) (by omega) jb)
    · exact n _ (List.mem_of_getElem? (i := 0) rfl) (inR (by omega) (by omega) jb)
    · exact n _ (List.mem_of_getElem? (i := 1) rfl) (inR (by omega) (by omega) jb)
    · exact n _ (List.mem_of_getElem? (i := 1) rfl) (inR (by omega) (by omega) jb)
    · exact n _ (List.mem_of_getElem? (i := 2) rfl) (inR (by omega) (by omega) jb)
  refine ⟨fun v => if v < 200 then ρ v else ga h' (197 + 2 * 4) 1, by exact fun v hv => if_pos (bltN (List.all_eq_true.mp (show (cAv ct_X1_divide_X0lo).all (fun v => Nat.blt v 200) = true by decide +kernel) v (zmem_of hv))), o1, S, F, ?_, ?_, fun _ y => absurd y List.not_mem_nil, List.forall_mem_cons.mpr ⟨out_X0b_rf S fb2, List.forall_mem_cons.mpr ⟨out_X0b_len S fb2, List.forall_mem_cons.mpr ⟨out_X0b_sg S fb2, List.forall_mem_cons.mpr ⟨out_X0b_lb S fb2, List.forall_mem_cons.mpr ⟨out_X0b_top0 S fb2, List.forall_mem_cons.mpr ⟨out_X0b_top1 S fb2, fun _ y => absurd y List.not_mem_nil⟩⟩⟩⟩⟩⟩, fun _ y => absurd y List.not_mem_nil⟩
  · refine List.forall_mem_cons.mpr ⟨?_, fun _ y => absurd y List.not_mem_nil⟩
    exact ga_gz (c := 205) (i := 1) (by decide) (by decide)
  · refine List.forall_mem_cons.mpr ⟨?_, fun _ y => absurd y List.not_mem_nil⟩
    show (0 : Int) ≤ 0 + (1 * ρ 50 + (-1 * ga h' (197 + 2 * 4) 1 + 0))
    rcases dv with ⟨_, w, _⟩ | ⟨nE, w, _⟩
    · rw [w]; omega
    · omega
def ct_X1_divide_X0hi : ZCt := (60, [(2, (197, [(80, 2)])), (2, (197, [(81, 2)])), (2, (205, [])), (2, (207, []))], [((197, [(80, 2)]), (1, []), 50)], [((-134), [(80, 1)]), (151, [(80, (-1))]), ((-152), [(81, 1)]), (152, [(81, (-1))])], [zi_X0b_kd, zi_X0b_ka, zi_X0b_rf, zi_X0b_ln0, zi_X0b_ln1, zi_X0b_ln2, zi_X0b_ln3, zi_X0b_lnx, zi_X0b_len, zi_X0b_sg, zi_X0b_lb, zi_X0b_top0, zi_X0b_top1], [(465, 500, 0, 1099511627775), (205, 206, 0, 1099511627775), (208, 208, 0, 1099511627775)], none, [((205, []), (1, []), 201)], [(0, [(50, 1), (201, (-1))])], [], [zi_X0b_rf, zi_X0b_len, zi_X0b_sg, zi_X0b_lb, zi_X0b_top0, zi_X0b_top1], [([60002, 60003], [((501, 502, 1, 1), (197, [(81, 2)]), (1, []), (0, [(60002, 1)])), ((501, 502, 0, 1099511627775), (198, [(81, 2)]), ((-1), [(60002, 1)]), (0, [(60003, 1)]))], [((-1), [(60002, 1)])], [((-1), [(60003, 1)])])], [], 0, 0, [80, 81])
set_option maxRecDepth 100000 in
set_option maxHeartbeats 4000000 in
theorem ok_X1_divide_X0hi : CtOk zG zT ct_X1_divide_X0hi := by
  refine ⟨by decide +kernel, fun q hq ρ h st hE hF hV hL => ?_⟩
  cases (show some ((KX1_divide, yX1_divide, 1, 3, 0) : MR) = some q from hq)
  have f0 : (0 : Int) ≤ (-134) + (1 * ρ 80 + 0) := hF _ (List.mem_of_getElem? (i := 0) rfl)
  have f1 : (0 : Int) ≤ 151 + ((-1) * ρ 80 + 0) := hF _ (List.mem_of_getElem? (i := 1) rfl)
  have f2 : (0 : Int) ≤ (-152) + (1 * ρ 81 + 0) := hF _ (List.mem_of_getElem? (i := 2) rfl)
  have f3 : (0 : Int) ≤ 152 + ((-1) * ρ 81 + 0) := hF _ (List.mem_of_getElem? (i := 3) rfl)
  obtain ⟨k, ek⟩ : ∃ k : Nat, ρ 80 = (k : Int) := ⟨(ρ 80).toNat, by omega⟩
  obtain ⟨k0, ek0⟩ : ∃ k : Nat, ρ 81 = (k : Int) := ⟨(ρ 81).toNat, by omega⟩
  have hk : 134 ≤ k ∧ k ≤ 151 := by omega
  have hk0 : 152 ≤ k0 ∧ k0 ≤ 152 := by omega
  have fb := FBX0.of st (hV zi_X0b_len (List.mem_of_getElem? (i := 8) rfl)) (hV zi_X0b_sg (List.mem_of_getElem? (i := 9) rfl)) (hV zi_X0b_lb (List.mem_of_getElem? (i := 10) rfl)) (hV zi_X0b_top0 (List.mem_of_getElem? (i := 11) rfl)) (hV zi_X0b_top1 (List.mem_of_getElem? (i := 12) rfl))
  obtain ⟨s1, l1, d1, g1, t1⟩ := fb k (by omega)
  obtain ⟨s2, l2, d2, g2, t2⟩ := fb k0 (by omega)
  obtain ⟨s3, l3, d3, g3, t3⟩ := fb 4 (by decide)
  obtain ⟨s4, l4, d4, g4, t4⟩ := fb 5 (by decide)
  have eA : ((kA ct_X1_divide_X0hi).map fun q => (q.1, zv ρ q.2) : List MV) = [(2, ((197 + 2 * k : Nat) : Int)), (2, ((197 + 2 * k0 : Nat) : Int)), (2, ((197 + 2 * 4 : Nat) : Int)), (2, ((197 + 2 * 5 : Nat) : Int))] := by
    show ([(2, 197 + (2 * ρ 80 + 0)), (2, 197 + (2 * ρ 81 + 0)), (2, 205 + 0), (2, 207 + 0)] : List MV) = _
    rw [ek, ek0, show (197 + (2 * (k : Int) + 0) : Int) = ((197 + 2 * k : Nat) : Int) by omega, show (197 + (2 * (k0 : Int) + 0) : Int) = ((197 + 2 * k0 : Nat) : Int) by omega]
    rfl
  show MCal KX1_divide yX1_divide _ _ _ h _
  rw [eA]
  have em : gz h (197 + (2 * ρ 80 + 0)) (1 + 0) = ρ 50 := hE _ (List.mem_of_getElem? (i := 0) rfl)
  rw [ek, show (197 + (2 * (k : Int) + 0) : Int) = ((197 + 2 * k : Nat) : Int) by omega, show (1 + 0 : Int) = 1 by decide, ga_gz (c := 197 + 2 * k) (i := 1) (by decide) (by decide)] at em
  have r_k := rmX0_b k
  have r_k0 := rmX0_b k0
  have tv : 1 ≤ ga h (197 + 2 * k0) 1 → 1 ≤ ga h (197 + 2 * k0 + 1) (ga h (197 + 2 * k0) 1 - 1) := fun y1 => by
    have z := hL _ (List.mem_of_getElem? (i := 0) rfl) (fun v => bif Nat.beq v 60003 then ga h (197 + 2 * k0 + 1) (ga h (197 + 2 * k0) 1 - 1) else bif Nat.beq v 60002 then ga h (197 + 2 * k0) 1 else ρ v) (lv9 ρ _ _) (List.forall_mem_cons.mpr ⟨⟨?_, ?_⟩, List.forall_mem_cons.mpr ⟨⟨?_, ?_⟩, fun _ y => absurd y List.not_mem_nil⟩⟩) (List.forall_mem_cons.mpr ⟨?_, fun _ y => absurd y List.not_mem_nil⟩)
    · have z0 : (0 : Int) ≤ -1 + (1 * ga h (197 + 2 * k0 + 1) (ga h (197 + 2 * k0) 1 - 1) + 0) := z _ List.mem_cons_self
      omega
    · show inZ (501, 502, 1, 1) (197 + (2 * ρ 81 + 0)) (1 + 0)
      exact ⟨⟨by show (501 : Int) ≤ _; omega, Or.inr (by show _ ≤ (502 : Int); omega)⟩, Or.inr ⟨by show (1 : Int) ≤ _; omega, by show _ ≤ (1 : Int); omega⟩⟩
    · show gz h (197 + (2 * ρ 81 + 0)) (1 + 0) = 0 + (1 * ga h (197 + 2 * k0) 1 + 0)
      rw [ek0, show (197 + (2 * (k0 : Int) + 0) : Int) = ((197 + 2 * k0 : Nat) : Int) by omega, show (1 + 0 : Int) = 1 by decide, ga_gz (c := 197 + 2 * k0) (i := 1) (by decide) (by decide)]
      omega
    · show inZ (501, 502, 0, 1099511627775) (198 + (2 * ρ 81 + 0)) (-1 + (1 * ga h (197 + 2 * k0) 1 + 0))
      exact ⟨⟨by show (501 : Int) ≤ _; omega, Or.inr (by show _ ≤ (502 : Int); omega)⟩, Or.inr ⟨by show (0 : Int) ≤ _; omega, by show _ ≤ (1099511627775 : Int); omega⟩⟩
    · show gz h (198 + (2 * ρ 81 + 0)) (-1 + (1 * ga h (197 + 2 * k0) 1 + 0)) = 0 + (1 * ga h (197 + 2 * k0 + 1) (ga h (197 + 2 * k0) 1 - 1) + 0)
      rw [ek0, show (198 + (2 * (k0 : Int) + 0) : Int) = ((197 + 2 * k0 + 1 : Nat) : Int) by omega, show (-1 + (1 * ga h (197 + 2 * k0) 1 + 0) : Int) = ga h (197 + 2 * k0) 1 - 1 by omega, ga_gz (c := 197 + 2 * k0 + 1) (by omega) (by omega)]
      omega
    · show (0 : Int) ≤ -1 + (1 * ga h (197 + 2 * k0) 1 + 0)
      omega
  have G : G1 [(197 + 2 * k, rmX0 k), (197 + 2 * k0, rmX0 k0), (197 + 2 * 4, rmX0 4), (197 + 2 * 5, rmX0 5)] h := fun qq hq => by
    simp only [List.mem_cons, List.not_mem_nil, or_false] at hq
    rcases hq with rfl | rfl | rfl | rfl
    · exact s1
    · exact s2
    · exact s3
    · exact s4
  have r4 := rmX0_b 4
  have r5 := rmX0_b 5
  refine MCal.mono (fun o h' w => ?_) (h_X1_divide (o := 197 + 2 * k) (W := rmX0 k) (v := 197 + 2 * k0) (V := rmX0 k0) (q := 197 + 2 * 4) (Y := rmX0 4) (s := 197 + 2 * 5) (Z := rmX0 5) (by omega) (by omega) (by omega) (by omega) (by omega) (by omega) (by omega) (by omega) (by
    by_cases w : k = k0
    · subst w
      exact Or.inl ⟨rfl, rfl⟩
    · omega) (by omega) (by omega) (by omega) (by omega) (by omega) d1 d2 d3 d4 l1 l2 tv g1 g2 G)
  obtain ⟨o1, oo, gg, e1, e2, e3, dv⟩ := w
  have sm := sg_mul g1 g2
  have ne : ∀ c : Nat, c ≠ 197 + 2 * k → c ≠ 197 + 2 * k + 1 → c ≠ 197 + 2 * 4 → c ≠ 197 + 2 * 4 + 1 → c ≠ 197 + 2 * 5 + 1 → ga h' c = ga h c := fun c a1 a2 a3 a4 a5 => onlyF oo (by simp only [List.mem_cons, List.not_mem_nil, or_false, not_or]; exact ⟨a1, a2, a3, a4, a5⟩)
  have fb2 : FBX0 h' := fun j hj => by
    by_cases q1 : j = k
    · subst q1
      refine ⟨gg _ List.mem_cons_self, ?_, e1, ?_, fun t => ?_⟩
      · rcases dv with ⟨_, _, _, w, _⟩ | ⟨nE, _, _, _, _, w, _⟩
        · rw [w]; exact l1
        · omega
      · rcases dv with ⟨_, _, _, w, _⟩ | ⟨nE, _, _, _, _, _, _, _, w⟩
        · rw [w]; exact g1
        · rw [w]
          split
          · decide
          · exact g1
      · rcases dv with ⟨_, _, _, w, w2⟩ | ⟨nE, _, _, _, _, _, _, w, _⟩
        · rw [w, w2]; exact t1 t
        · exact w
    · by_cases q2 : j = 4
      · subst q2
        refine ⟨gg _ (List.mem_cons_of_mem _ (List.mem_cons_of_mem _ List.mem_cons_self)), ?_, e2, ?_, fun t => ?_⟩
        · rcases dv with ⟨_, w, _⟩ | ⟨nE, w, _⟩
          · rw [w]; omega
          · omega
        · rcases dv with ⟨_, _, w, _⟩ | ⟨nE, _, _, _, w, _⟩
          · rw [w]; decide
          · rw [w]
            split
            · decide
            · exact sm
        · rcases dv with ⟨_, w, _⟩ | ⟨nE, _, _, w, _⟩
          · intro z
            omega
          · exact w
      · by_cases q3 : j = 5
        · subst q3
          have w := ne (197 + 2 * 5) (by omega) (by omega) (by omega) (by omega) (by omega)
          refine ⟨gg _ (List.mem_cons_of_mem _ (List.mem_cons_of_mem _ (List.mem_cons_of_mem _ List.mem_cons_self))), by rw [w]; exact l4, e3, by rw [w]; exact g4, fun t => ?_⟩
          exfalso
          omega
        · obtain ⟨s9, l9, d9, g9, t9⟩ := fb j hj
          have w := ne (197 + 2 * j) (by omega) (by omega) (by omega) (by omega) (by omega)
          have w2 := ne (197 + 2 * j + 1) (by omega) (by omega) (by omega) (by omega) (by omega)
          refine ⟨s9.only oo (by simp only [List.mem_cons, List.not_mem_nil, or_false, not_or]; omega), ?_, ?_, ?_, ?_⟩
          · rw [w]; exact l9
          · rw [w2]; exact d9
          · rw [w]; exact g9
          · rw [w, w2]; exact t9
  have tb1 := tbX0 k (by omega)
  have tb4 := tbX0 4 (by decide)
  have tb5 := tbX0 5 (by decide)
  have S : StrZ zT h' := by
    refine strz_only st oo (fun c hc j n => ?_) (fun c hc => ?_)
    · simp only [List.mem_cons, List.not_mem_nil, or_false] at hc
      rcases hc with rfl | rfl | rfl | rfl | rfl
      · rw [zref17 tb1.1 n, (fb2 k (by omega)).1.2.2, s1.2.2]
      · exact absurd (zref0 tb1.2.1 j) n
      · rw [zref17 tb4.1 n, (fb2 4 (by decide)).1.2.2, s3.2.2]
      · exact absurd (zref0 tb4.2.1 j) n
      · exact absurd (zref0 tb5.2.1 j) n
    · simp only [List.mem_cons, List.not_mem_nil, or_false] at hc
      rcases hc with rfl | rfl | rfl | rfl | rfl
      · exact zrow0 (Or.inr tb1.1)
      · exact zrow0 (Or.inl tb1.2.1)
      · exact zrow0 (Or.inr tb4.1)
      · exact zrow0 (Or.inl tb4.2.1)
      · exact zrow0 (Or.inl tb5.2.1)
  have F : Frm (kMd ct_X1_divide_X0hi) h h' := by
    refine frm_only2 oo fun c hc j jb n => ?_
    exfalso
    simp only [List.mem_cons, List.not_mem_nil, or_false] at hc
    rcases hc with hc | hc | hc | hc | hc
    · exact n _ (List.mem_of_getElem? (i := 0) rfl) (inR (by omega) (by omega) jb)
    · exact n _ (List.mem_of_getElem? (i := 0) rfl) (inR (by omega) (by omega) jb)
    · exact n _ (List.mem_of_getElem? (i := 1) rfl) (inR (by omega) (by omega) jb)
    · exact n _ (List.mem_of_getElem? (i := 1) rfl) (inR (by omega) (by omega) jb)
    · exact n _ (List.mem_of_getElem? (i := 2) rfl) (inR (by omega) (by omega) jb)
  refine ⟨fun v => if v < 200 then ρ v else ga h' (197 + 2 * 4) 1, by exact fun v hv => if_pos (bltN (List.all_eq_true.mp (show (cAv ct_X1_divide_X0hi).all (fun v => Nat.blt v 200) = true by decide +kernel) v (zmem_of hv))), o1, S, F, ?_, ?_, fun _ y => absurd y List.not_mem_nil, List.forall_mem_cons.mpr ⟨out_X0b_rf S fb2, List.forall_mem_cons.mpr ⟨out_X0b_len S fb2, List.forall_mem_cons.mpr ⟨out_X0b_sg S fb2, List.forall_mem_cons.mpr ⟨out_X0b_lb S fb2, List.forall_mem_cons.mpr ⟨out_X0b_top0 S fb2, List.forall_mem_cons.mpr ⟨out_X0b_top1 S fb2, fun _ y => absurd y List.not_mem_nil⟩⟩⟩⟩⟩⟩, fun _ y => absurd y List.not_mem_nil⟩
  · refine List.forall_mem_cons.mpr ⟨?_, fun _ y => absurd y List.not_mem_nil⟩
    exact ga_gz (c := 205) (i := 1) (by decide) (by decide)
  · refine List.forall_mem_cons.mpr ⟨?_, fun _ y => absurd y List.not_mem_nil⟩
    show (0 : Int) ≤ 0 + (1 * ρ 50 + (-1 * ga h' (197 + 2 * 4) 1 + 0))
    rcases dv with ⟨_, w, _⟩ | ⟨nE, w, _⟩
    · rw [w]; omega
    · omega
def ct_X1_divide_X9lo : ZCt := (60, [(2, (562, [(80, 2)])), (2, (562, [(81, 2)])), (2, (570, [])), (2, (572, []))], [((562, [(80, 2)]), (1, []), 50)], [(0, [(80, 1)]), (3, [(80, (-1))]), (0, [(81, 1)]), (3, [(81, (-1))])], [zi_X9b_kd, zi_X9b_ka, zi_X9b_rf, zi_X9b_ln0, zi_X9b_ln1, zi_X9b_lnx, zi_X9b_len, zi_X9b_sg, zi_X9b_lb, zi_X9b_top0, zi_X9b_top1], [(562, 569, 0, 1099511627775), (570, 571, 0, 1099511627775), (573, 573, 0, 1099511627775)], none, [((570, []), (1, []), 201)], [(0, [(50, 1), (201, (-1))])], [], [zi_X9b_rf, zi_X9b_len, zi_X9b_sg, zi_X9b_lb, zi_X9b_top0, zi_X9b_top1], [([60002, 60003], [((562, 569, 1, 1), (562, [(81, 2)]), (1, []), (0, [(60002, 1)])), ((562, 569, 0, 1099511627775), (563, [(81, 2)]), ((-1), [(60002, 1)]), (0, [(60003, 1)]))], [((-1), [(60002, 1)])], [((-1), [(60003, 1)])])], [], 0, 0, [80, 81])
set_option maxRecDepth 100000 in
set_option maxHeartbeats 4000000 in
theorem ok_X1_divide_X9lo : CtOk zG zT ct_X1_divide_X9lo := by
  refine ⟨by decide +kernel, fun q hq ρ h st hE hF hV hL => ?_⟩
  cases (show some ((KX1_divide, yX1_divide, 1, 3, 0) : MR) = some q from hq)
  have f0 : (0 : Int) ≤ 0 + (1 * ρ 80 + 0) := hF _ (List.mem_of_getElem? (i := 0) rfl)
  have f1 : (0 : Int) ≤ 3 + ((-1) * ρ 80 + 0) := hF _ (List.mem_of_getElem? (i := 1) rfl)
  have f2 : (0 : Int) ≤ 0 + (1 * ρ 81 + 0) := hF _ (List.mem_of_getElem? (i := 2) rfl)
  have f3 : (0 : Int) ≤ 3 + ((-1) * ρ 81 + 0) := hF _ (List.mem_of_getElem? (i := 3) rfl)
  obtain ⟨k, ek⟩ : ∃ k : Nat, ρ 80 = (k : Int) := ⟨(ρ 80).toNat, by omega⟩
  obtain ⟨k0, ek0⟩ : ∃ k : Nat, ρ 81 = (k : Int) := ⟨(ρ 81).toNat, by omega⟩
  have hk : 0 ≤ k ∧ k ≤ 3 := by omega
  have hk0 : 0 ≤ k0 ∧ k0 ≤ 3 := by omega
  have fb := FBX9.of st (hV zi_X9b_len (List.mem_of_getElem? (i := 6) rfl)) (hV zi_X9b_sg (List.mem_of_getElem? (i := 7) rfl)) (hV zi_X9b_lb (List.mem_of_getElem? (i := 8) rfl)) (hV zi_X9b_top0 (List.mem_of_getElem? (i := 9) rfl)) (hV zi_X9b_top1 (List.mem_of_getElem? (i := 10) rfl))
  obtain ⟨s1, l1, d1, g1, t1⟩ := fb k (by omega)
  obtain ⟨s2, l2, d2, g2, t2⟩ := fb k0 (by omega)
  obtain ⟨s3, l3, d3, g3, t3⟩ := fb 4 (by decide)
  obtain ⟨s4, l4, d4, g4, t4⟩ := fb 5 (by decide)
  have eA : ((kA ct_X1_divide_X9lo).map fun q => (q.1, zv ρ q.2) : List MV) = [(2, ((562 + 2 * k : Nat) : Int)), (2, ((562 + 2 * k0 : Nat) : Int)), (2, ((562 + 2 * 4 : Nat) : Int)), (2, ((562 + 2 * 5 : Nat) : Int))] := by
    show ([(2, 562 + (2 * ρ 80 + 0)), (2, 562 + (2 * ρ 81 + 0)), (2, 570 + 0), (2, 572 + 0)] : List MV) = _
    rw [ek, ek0, show (562 + (2 * (k : Int) + 0) : Int) = ((562 + 2 * k : Nat) : Int) by omega, show (562 + (2 * (k0 : Int) + 0) : Int) = ((562 + 2 * k0 : Nat) : Int) by omega]
    rfl
  show MCal KX1_divide yX1_divide _ _ _ h _
  rw [eA]
  have em : gz h (562 + (2 * ρ 80 + 0)) (1 + 0) = ρ 50 := hE _ (List.mem_of_getElem? (i := 0) rfl)
  rw [ek, show (562 + (2 * (k : Int) + 0) : Int) = ((562 + 2 * k : Nat) : Int) by omega, show (1 + 0 : Int) = 1 by decide, ga_gz (c := 562 + 2 * k) (i := 1) (by decide) (by decide)] at em
  have r_k := rmX9_b k
  have r_k0 := rmX9_b k0
  have tv := t2 (Or.inl (by omega))
  have G : G1 [(562 + 2 * k, rmX9 k), (562 + 2 * k0, rmX9 k0), (562 + 2 * 4, rmX9 4), (562 + 2 * 5, rmX9 5)] h := fun qq hq => by
    simp only [List.mem_cons, List.not_mem_nil, or_false] at hq
    rcases hq with rfl | rfl | rfl | rfl
    · exact s1
    · exact s2
    · exact s3
    · exact s4
  have r4 := rmX9_b 4
  have r5 := rmX9_b 5
  refine MCal.mono (fun o h' w => ?_) (h_X1_divide (o := 562 + 2 * k) (W := rmX9 k) (v := 562 + 2 * k0) (V := rmX9 k0) (q := 562 + 2 * 4) (Y := rmX9 4) (s := 562 + 2 * 5) (Z := rmX9 5) (by omega) (by omega) (by omega) (by omega) (by omega) (by omega) (by omega) (by omega) (by
    by_cases w : k = k0
    · subst w
      exact Or.inl ⟨rfl, rfl⟩
    · omega) (by omega) (by omega) (by omega) (by omega) (by omega) d1 d2 d3 d4 l1 l2 tv g1 g2 G)
  obtain ⟨o1, oo, gg, e1, e2, e3, dv⟩ := w
  have sm := sg_mul g1 g2
  have ne : ∀ c : Nat, c ≠ 562 + 2 * k → c ≠ 562 + 2 * k + 1 → c ≠ 562 + 2 * 4 → c ≠ 562 + 2 * 4 + 1 → c ≠ 562 + 2 * 5 + 1 → ga h' c = ga h c := fun c a1 a2 a3 a4 a5 => onlyF oo (by simp only [List.mem_cons, List.not_mem_nil, or_false, not_or]; exact ⟨a1, a2, a3, a4, a5⟩)
  have fb2 : FBX9 h' := fun j hj => by
    by_cases q1 : j = k
    · subst q1
      refine ⟨gg _ List.mem_cons_self, ?_, e1, ?_, fun t => ?_⟩
      · rcases dv with ⟨_, _, _, w, _⟩ | ⟨nE, _, _, _, _, w, _⟩
        · rw [w]; exact l1
        · omega
      · rcases dv with ⟨_, _, _, w, _⟩ | ⟨nE, _, _, _, _, _, _, _, w⟩
        · rw [w]; exact g1
        · rw [w]
          split
          · decide
          · exact g1
      · rcases dv with ⟨_, _, _, w, w2⟩ | ⟨nE, _, _, _, _, _, _, w, _⟩
        · rw [w, w2]; exact t1 t
        · exact w
    · by_cases q2 : j = 4
      · subst q2
        refine ⟨gg _ (List.mem_cons_of_mem _ (List.mem_cons_of_mem _ List.mem_cons_self)), ?_, e2, ?_, fun t => ?_⟩
        · rcases dv with ⟨_, w, _⟩ | ⟨nE, w, _⟩
          · rw [w]; omega
          · omega
        · rcases dv with ⟨_, _, w, _⟩ | ⟨nE, _, _, _, w, _⟩
          · rw [w]; decide
          · rw [w]
            split
            · decide
            · exact sm
        · rcases dv with ⟨_, w, _⟩ | ⟨nE, _, _, w, _⟩
          · intro z
            omega
          · exact w
      · by_cases q3 : j = 5
        · subst q3
          have w := ne (562 + 2 * 5) (by omega) (by omega) (by omega) (by omega) (by omega)
          refine ⟨gg _ (List.mem_cons_of_mem _ (List.mem_cons_of_mem _ (List.mem_cons_of_mem _ List.mem_cons_self))), by rw [w]; exact l4, e3, by rw [w]; exact g4, fun t => ?_⟩
          exfalso
          omega
        · obtain ⟨s9, l9, d9, g9, t9⟩ := fb j hj
          have w := ne (562 + 2 * j) (by omega) (by omega) (by omega) (by omega) (by omega)
          have w2 := ne (562 + 2 * j + 1) (by omega) (by omega) (by omega) (by omega) (by omega)
          refine ⟨s9.only oo (by simp only [List.mem_cons, List.not_mem_nil, or_false, not_or]; omega), ?_, ?_, ?_, ?_⟩
          · rw [w]; exact l9
          · rw [w2]; exact d9
          · rw [w]; exact g9
          · rw [w, w2]; exact t9
  have tb1 := tbX9 k (by omega)
  have tb4 := tbX9 4 (by decide)
  have tb5 := tbX9 5 (by decide)
  have S : StrZ zT h' := by
    refine strz_only st oo (fun c hc j n => ?_) (fun c hc => ?_)
    · simp only [List.mem_cons, List.not_mem_nil, or_false] at hc
      rcases hc with rfl | rfl | rfl | rfl | rfl
      · rw [zref17 tb1.1 n, (fb2 k (by omega)).1.2.2, s1.2.2]
      · exact absurd (zref0 tb1.2.1 j) n
      · rw [zref17 tb4.1 n, (fb2 4 (by decide)).1.2.2, s3.2.2]
      · exact absurd (zref0 tb4.2.1 j) n
      · exact absurd (zref0 tb5.2.1 j) n
    · simp only [List.mem_cons, List.not_mem_nil, or_false] at hc
      rcases hc with rfl | rfl | rfl | rfl | rfl
      · exact zrow0 (Or.inr tb1.1)
      · exact zrow0 (Or.inl tb1.2.1)
      · exact zrow0 (Or.inr tb4.1)
      · exact zrow0 (Or.inl tb4.2.1)
      · exact zrow0 (Or.inl tb5.2.1)
  have F : Frm (kMd ct_X1_divide_X9lo) h h' := by
    refine frm_only2 oo fun c hc j jb n => ?_
    exfalso
    simp only [List.mem_cons, List.not_mem_nil, or_false] at hc
    rcases hc with hc | hc | hc | hc | hc
    · exact n _ (List.mem_of_getElem? (i := 0) rfl) (inR (by omega) (by omega) jb)
    · exact n _ (List.mem_of_getElem? (i := 0) rfl) (inR (by omega) (by omega) jb)
    · exact n _ (List.mem_of_getElem? (i := 1) rfl) (inR (by omega) (by omega) jb)
    · exact n _ (List.mem_of_getElem? (i := 1) rfl) (inR (by omega) (by omega) jb)
    · exact n _ (List.mem_of_getElem? (i := 2) rfl) (inR (by omega) (by omega) jb)
  refine ⟨fun v => if v < 200 then ρ v else ga h' (562 + 2 * 4) 1, by exact fun v hv => if_pos (bltN (List.all_eq_true.mp (show (cAv ct_X1_divide_X9lo).all (fun v => Nat.blt v 200) = true by decide +kernel) v (zmem_of hv))), o1, S, F, ?_, ?_, fun _ y => absurd y List.not_mem_nil, List.forall_mem_cons.mpr ⟨out_X9b_rf S fb2, List.forall_mem_cons.mpr ⟨out_X9b_len S fb2, List.forall_mem_cons.mpr ⟨out_X9b_sg S fb2, List.forall_mem_cons.mpr ⟨out_X9b_lb S fb2, List.forall_mem_cons.mpr ⟨out_X9b_top0 S fb2, List.forall_mem_cons.mpr ⟨out_X9b_top1 S fb2, fun _ y => absurd y List.not_mem_nil⟩⟩⟩⟩⟩⟩, fun _ y => absurd y List.not_mem_nil⟩
  · refine List.forall_mem_cons.mpr ⟨?_, fun _ y => absurd y List.not_mem_nil⟩
    exact ga_gz (c := 570) (i := 1) (by decide) (by decide)
  · refine List.forall_mem_cons.mpr ⟨?_, fun _ y => absurd y List.not_mem_nil⟩
    show (0 : Int) ≤ 0 + (1 * ρ 50 + (-1 * ga h' (562 + 2 * 4) 1 + 0))
    rcases dv with ⟨_, w, _⟩ | ⟨nE, w, _⟩
    · rw [w]; omega
    · omega
def ct_X1_divide_X8lo : ZCt := (60, [(2, (819, [(80, 2)])), (2, (819, [(81, 2)])), (2, (827, [])), (2, (829, []))], [((819, [(80, 2)]), (1, []), 50)], [(0, [(80, 1)]), (3, [(80, (-1))]), (0, [(81, 1)]), (3, [(81, (-1))])], [zi_X8b_kd, zi_X8b_ka, zi_X8b_rf, zi_X8b_ln0, zi_X8b_lnx, zi_X8b_len, zi_X8b_sg, zi_X8b_lb, zi_X8b_top0, zi_X8b_top1], [(819, 826, 0, 1099511627775), (827, 828, 0, 1099511627775), (830, 830, 0, 1099511627775)], none, [((827, []), (1, []), 201)], [(0, [(50, 1), (201, (-1))])], [], [zi_X8b_rf, zi_X8b_len, zi_X8b_sg, zi_X8b_lb, zi_X8b_top0, zi_X8b_top1], [([60002, 60003], [((819, 826, 1, 1), (819, [(81, 2)]), (1, []), (0, [(60002, 1)])), ((819, 826, 0, 1099511627775), (820, [(81, 2)]), ((-1), [(60002, 1)]), (0, [(60003, 1)]))], [((-1), [(60002, 1)])], [((-1), [(60003, 1)])])], [], 0, 0, [80, 81])
set_option maxRecDepth 100000 in
set_option maxHeartbeats 4000000 in
theorem ok_X1_divide_X8lo : CtOk zG zT ct_X1_divide_X8lo := by
  refine ⟨by decide +kernel, fun q hq ρ h st hE hF hV hL => ?_⟩
  cases (show some ((KX1_divide, yX1_divide, 1, 3, 0) : MR) = some q from hq)
  have f0 : (0 : Int) ≤ 0 + (1 * ρ 80 + 0) := hF _ (List.mem_of_getElem? (i := 0) rfl)
  have f1 : (0 : Int) ≤ 3 + ((-1) * ρ 80 + 0) := hF _ (List.mem_of_getElem? (i := 1) rfl)
  have f2 : (0 : Int) ≤ 0 + (1 * ρ 81 + 0) := hF _ (List.mem_of_getElem? (i := 2) rfl)
  have f3 : (0 : Int) ≤ 3 + ((-1) * ρ 81 + 0) := hF _ (List.mem_of_getElem? (i := 3) rfl)
  obtain ⟨k, ek⟩ : ∃ k : Nat, ρ 80 = (k : Int) := ⟨(ρ 80).toNat, by omega⟩
  obtain ⟨k0, ek0⟩ : ∃ k : Nat, ρ 81 = (k : Int) := ⟨(ρ 81).toNat, by omega⟩
  have hk : 0 ≤ k ∧ k ≤ 3 := by omega
  have hk0 : 0 ≤ k0 ∧ k0 ≤ 3 := by omega
  have fb := FBX8.of st (hV zi_X8b_len (List.mem_of_getElem? (i := 5) rfl)) (hV zi_X8b_sg (List.mem_of_getElem? (i := 6) rfl)) (hV zi_X8b_lb (List.mem_of_getElem? (i := 7) rfl)) (hV zi_X8b_top0 (List.mem_of_getElem? (i := 8) rfl)) (hV zi_X8b_top1 (List.mem_of_getElem? (i := 9) rfl))
  obtain ⟨s1, l1, d1, g1, t1⟩ := fb k (by omega)
  obtain ⟨s2, l2, d2, g2, t2⟩ := fb k0 (by omega)
  obtain ⟨s3, l3, d3, g3, t3⟩ := fb 4 (by decide)
  obtain ⟨s4, l4, d4, g4, t4⟩ := fb 5 (by decide)
  have eA : ((kA ct_X1_divide_X8lo).map fun q => (q.1, zv ρ q.2) : List MV) = [(2, ((819 + 2 * k : Nat) : Int)), (2, ((819 + 2 * k0 : Nat) : Int)), (2, ((819 + 2 * 4 : Nat) : Int)), (2, ((819 + 2 * 5 : Nat) : Int))] := by
    show ([(2, 819 + (2 * ρ 80 + 0)), (2, 819 + (2 * ρ 81 + 0)), (2, 827 + 0), (2, 829 + 0)] : List MV) = _
    rw [ek, ek0, show (819 + (2 * (k : Int) + 0) : Int) = ((819 + 2 * k : Nat) : Int) by omega, show (819 + (2 * (k0 : Int) + 0) : Int) = ((819 + 2 * k0 : Nat) : Int) by omega]
    rfl
  show MCal KX1_divide yX1_divide _ _ _ h _
  rw [eA]
  have em : gz h (819 + (2 * ρ 80 + 0)) (1 + 0) = ρ 50 := hE _ (List.mem_of_getElem? (i := 0) rfl)
  rw [ek, show (819 + (2 * (k : Int) + 0) : Int) = ((819 + 2 * k : Nat) : Int) by omega, show (1 + 0 : Int) = 1 by decide, ga_gz (c := 819 + 2 * k) (i := 1) (by decide) (by decide)] at em
  have r_k := rmX8_b k
  have r_k0 := rmX8_b k0
  have tv := t2 (Or.inl (by omega))
  have G : G1 [(819 + 2 * k, rmX8 k), (819 + 2 * k0, rmX8 k0), (819 + 2 * 4, rmX8 4), (819 + 2 * 5, rmX8 5)] h := fun qq hq => by
    simp only [List.mem_cons, List.not_mem_nil, or_false] at hq
    rcases hq with rfl | rfl | rfl | rfl
    · exact s1
    · exact s2
    · exact s3
    · exact s4
  have r4 := rmX8_b 4
  have r5 := rmX8_b 5
  refine MCal.mono (fun o h' w => ?_) (h_X1_divide (o := 819 + 2 * k) (W := rmX8 k) (v := 819 + 2 * k0) (V := rmX8 k0) (q := 819 + 2 * 4) (Y := rmX8 4) (s := 819 + 2 * 5) (Z := rmX8 5) (by omega) (by omega) (by omega) (by omega) (by omega) (by omega) (by omega) (by omega) (by
    by_cases w : k = k0
    · subst w
      exact Or.inl ⟨rfl, rfl⟩
    · omega) (by omega) (by omega) (by omega) (by omega) (by omega) d1 d2 d3 d4 l1 l2 tv g1 g2 G)
  obtain ⟨o1, oo, gg, e1, e2, e3, dv⟩ := w
  have sm := sg_mul g1 g2
  have ne : ∀ c : Nat, c ≠ 819 + 2 * k → c ≠ 819 + 2 * k + 1 → c ≠ 819 + 2 * 4 → c ≠ 819 + 2 * 4 + 1 → c ≠ 819 + 2 * 5 + 1 → ga h' c = ga h c := fun c a1 a2 a3 a4 a5 => onlyF oo (by simp only [List.mem_cons, List.not_mem_nil, or_false, not_or]; exact ⟨a1, a2, a3, a4, a5⟩)
  have fb2 : FBX8 h' := fun j hj => by
    by_cases q1 : j = k
    · subst q1
      refine ⟨gg _ List.mem_cons_self, ?_, e1, ?_, fun t => ?_⟩
      · rcases dv with ⟨_, _, _, w, _⟩ | ⟨nE, _, _, _, _, w, _⟩
        · rw [w]; exact l1
        · omega
      · rcases dv with ⟨_, _, _, w, _⟩ | ⟨nE, _, _, _, _, _, _, _, w⟩
        · rw [w]; exact g1
        · rw [w]
          split
          · decide
          · exact g1
      · rcases dv with ⟨_, _, _, w, w2⟩ | ⟨nE, _, _, _, _, _, _, w, _⟩
        · rw [w, w2]; exact t1 t
        · exact w
    · by_cases q2 : j = 4
      · subst q2
        refine ⟨gg _ (List.mem_cons_of_mem _ (List.mem_cons_of_mem _ List.mem_cons_self)), ?_, e2, ?_, fun t => ?_⟩
        · rcases dv with ⟨_, w, _⟩ | ⟨nE, w, _⟩
          · rw [w]; omega
          · omega
        · rcases dv with ⟨_, _, w, _⟩ | ⟨nE, _, _, _, w, _⟩
          · rw [w]; decide
          · rw [w]
            split
            · decide
            · exact sm
        · rcases dv with ⟨_, w, _⟩ | ⟨nE, _, _, w, _⟩
          · intro z
            omega
          · exact w
      · by_cases q3 : j = 5
        · subst q3
          have w := ne (819 + 2 * 5) (by omega) (by omega) (by omega) (by omega) (by omega)
          refine ⟨gg _ (List.mem_cons_of_mem _ (List.mem_cons_of_mem _ (List.mem_cons_of_mem _ List.mem_cons_self))), by rw [w]; exact l4, e3, by rw [w]; exact g4, fun t => ?_⟩
          exfalso
          omega
        · obtain ⟨s9, l9, d9, g9, t9⟩ := fb j hj
          have w := ne (819 + 2 * j) (by omega) (by omega) (by omega) (by omega) (by omega)
          have w2 := ne (819 + 2 * j + 1) (by omega) (by omega) (by omega) (by omega) (by omega)
          refine ⟨s9.only oo (by simp only [List.mem_cons, List.not_mem_nil, or_false, not_or]; omega), ?_, ?_, ?_, ?_⟩
          · rw [w]; exact l9
          · rw [w2]; exact d9
          · rw [w]; exact g9
          · rw [w, w2]; exact t9
  have tb1 := tbX8 k (by omega)
  have tb4 := tbX8 4 (by decide)
  have tb5 := tbX8 5 (by decide)
  have S : StrZ zT h' := by
    refine strz_only st oo (fun c hc j n => ?_) (fun c hc => ?_)
    · simp only [List.mem_cons, List.not_mem_nil, or_false] at hc
      rcases hc with rfl | rfl | rfl | rfl | rfl
      · rw [zref17 tb1.1 n, (fb2 k (by omega)).1.2.2, s1.2.2]
      · exact absurd (zref0 tb1.2.1 j) n
      · rw [zref17 tb4.1 n, (fb2 4 (by decide)).1.2.2, s3.2.2]
      · exact absurd (zref0 tb4.2.1 j) n
      · exact absurd (zref0 tb5.2.1 j) n
    · simp only [List.mem_cons, List.not_mem_nil, or_false] at hc
      rcases hc with rfl | rfl | rfl | rfl | rfl
      · exact zrow0 (Or.inr tb1.1)
      · exact zrow0 (Or.inl tb1.2.1)
      · exact zrow0 (Or.inr tb4.1)
      · exact zrow0 (Or.inl tb4.2.1)
      · exact zrow0 (Or.inl tb5.2.1)
  have F : Frm (kMd ct_X1_divide_X8lo) h h' := by
    refine frm_only2 oo fun c hc j jb n => ?_
    exfalso
    simp only [List.mem_cons, List.not_mem_nil, or_false] at hc
    rcases hc with hc | hc | hc | hc | hc
    · exact n _ (List.mem_of_getElem? (i := 0) rfl) (inR (by omega) (by omega) jb)
    · exact n _ (List.mem_of_getElem? (i := 0) rfl) (inR (by omega) (by omega) jb)
    · exact n _ (List.mem_of_getElem? (i := 1) rfl) (inR (by omega) (by omega) jb)
    · exact n _ (List.mem_of_getElem? (i := 1) rfl) (inR (by omega) (by omega) jb)
    · exact n _ (List.mem_of_getElem? (i := 2) rfl) (inR (by omega) (by omega) jb)
  refine ⟨fun v => if v < 200 then ρ v else ga h' (819 + 2 * 4) 1, by exact fun v hv => if_pos (bltN (List.all_eq_true.mp (show (cAv ct_X1_divide_X8lo).all (fun v => Nat.blt v 200) = true by decide +kernel) v (zmem_of hv))), o1, S, F, ?_, ?_, fun _ y => absurd y List.not_mem_nil, List.forall_mem_cons.mpr ⟨out_X8b_rf S fb2, List.forall_mem_cons.mpr ⟨out_X8b_len S fb2, List.forall_mem_cons.mpr ⟨out_X8b_sg S fb2, List.forall_mem_cons.mpr ⟨out_X8b_lb S fb2, List.forall_mem_cons.mpr ⟨out_X8b_top0 S fb2, List.forall_mem_cons.mpr ⟨out_X8b_top1 S fb2, fun _ y => absurd y List.not_mem_nil⟩⟩⟩⟩⟩⟩, fun _ y => absurd y List.not_mem_nil⟩
  · refine List.forall_mem_cons.mpr ⟨?_, fun _ y => absurd y List.not_mem_nil⟩
    exact ga_gz (c := 827) (i := 1) (by decide) (by decide)
  · refine List.forall_mem_cons.mpr ⟨?_, fun _ y => absurd y List.not_mem_nil⟩
    show (0 : Int) ≤ 0 + (1 * ρ 50 + (-1 * ga h' (819 + 2 * 4) 1 + 0))
    rcases dv with ⟨_, w, _⟩ | ⟨nE, w, _⟩
    · rw [w]; omega
    · omega
