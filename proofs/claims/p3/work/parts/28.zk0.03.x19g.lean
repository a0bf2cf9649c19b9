set_option maxRecDepth 20000 in
set_option maxHeartbeats 8000000 in
theorem h_X19_divisorOf {h : MH} {a b va vb : Int} {m : Nat} (ha : 0 ≤ a) (ha2 : a < 30) (hb : 0 ≤ b) (hb2 : b < 30) (an : a ∉ [23, 24, 25]) (bn : b ∉ [23, 24, 25]) (NA : Num (ga h 2515) 140 a) (vA : vl (ga h 2515) 140 a = va) (NB : Num (ga h 2515) 140 b) (vB : vl (ga h 2515) 140 b = vb) (hva : 0 < va) (hvb : 0 < vb) (ham : va < PW m) (hbm : vb < PW m) (hm : (m : Int) + 3 < 140) (g : Str t19 r19 h) : MCal KX19_divisorOf yX19_divisorOf 0 0 [(2, ((2514 : Nat) : Int)), (0, a), (0, b)] h (mRV fun h' => Ch 140 2515 2516 [23, 24, 25] h h' ∧ Num (ga h' 2515) 140 23 ∧ vl (ga h' 2515) 140 23 = gi va vb) := by
  refine MCal.ofMW (Or.inl rfl) ⟨cp_X19, rfl⟩ (Nat.le_of_ble_eq_true rfl) ?_
  generalize eQ : (mRV fun h' => Ch 140 2515 2516 [23, 24, 25] h h' ∧ Num (ga h' 2515) 140 23 ∧ vl (ga h' 2515) 140 23 = gi va vb : MO → MH → Prop) = Q
  change MW KX19_divisorOf Q 0 0 (pcA pgX19_divisorOf 0) [(0, (2, ((2514 : Nat) : Int))), (1, (0, a)), (2, (0, b))] [] h
  refine hd_locI (i := 1) rfl (fun ra => ?_)
  refine hd_locI (i := 2) rfl (fun rb => ?_)
  simp only [List.mem_cons, List.not_mem_nil, or_false, not_or] at an bn
  have hC : Ch 140 2515 2516 [23, 24, 25] h h := Ch.refl _ _ _ _ _
  refine hd_aload pkX19_divisorOf rfl rfl (Int.natCast_nonneg _) ?_
  refine hd_iload pkX19_divisorOf rfl rfl ?_
  refine hd_ipush (z := 23) pkX19_divisorOf rfl ?_
  refine hd_callV pkX19_divisorOf rfl (q := (KX19_copy, yX19_copy, 19, 2, 0)) rfl rfl rfl (As := [(0, a), (0, 23)]) (rest := []) (c := 2514) rfl rfl (Nat.le_of_ble_eq_true rfl) (g.cell 0 rfl).1 (g.cell 0 rfl).2.1 (h_X19_copy ha ha2 (by decide) (by decide) NA g) (hd_bV (fun hc1 p0 => ?_))
  have ghc1 : Str t19 r19 hc1 := g.only p0.1.1 (by decide)
  have hC := hC.trans (p0.1.mono (by intro n hn; simp only [List.mem_cons, List.not_mem_nil, or_false] at hn ⊢; omega))
  have qB := p0.1.num (by decide) (n := b) hb (by first | decide | (simp only [List.mem_cons, List.not_mem_nil, or_false]; omega)) NB
  have vB := qB.2.1.trans vB
  have NB := qB.1
  have v3 : vl (ga hc1 2515) 140 23 = va := p0.2.2.1.trans vA
  have N3 := p0.2.1
  refine hd_aload pkX19_divisorOf rfl rfl (Int.natCast_nonneg _) ?_
  refine hd_iload pkX19_divisorOf rfl rfl ?_
  refine hd_ipush (z := 24) pkX19_divisorOf rfl ?_
  refine hd_callV pkX19_divisorOf rfl (q := (KX19_copy, yX19_copy, 19, 2, 0)) rfl rfl rfl (As := [(0, b), (0, 24)]) (rest := []) (c := 2514) rfl rfl (Nat.le_of_ble_eq_true rfl) (ghc1.cell 0 rfl).1 (ghc1.cell 0 rfl).2.1 (h_X19_copy hb hb2 (by decide) (by decide) NB ghc1) (hd_bV (fun hc2 p1 => ?_))
  have ghc2 : Str t19 r19 hc2 := ghc1.only p1.1.1 (by decide)
  have hC := hC.trans (p1.1.mono (by intro n hn; simp only [List.mem_cons, List.not_mem_nil, or_false] at hn ⊢; omega))
  have q3 := p1.1.num (by decide) (n := 23) (by decide) (by first | decide | (simp only [List.mem_cons, List.not_mem_nil, or_false]; omega)) N3
  have v3 := q3.2.1.trans v3
  have N3 := q3.1
  have v4 : vl (ga hc2 2515) 140 24 = vb := p1.2.2.1.trans vB
  have N4 := p1.2.1
  refine hd_aload pkX19_divisorOf rfl rfl (Int.natCast_nonneg _) ?_
  refine hd_getR (n := 2516) pkX19_divisorOf rfl (ghc2.cell 0 rfl).1 (ghc2.cell 0 rfl).2.1 (ghc2.ref 1 rfl) ?_
  refine hd_ipush (z := 23) pkX19_divisorOf rfl ?_
  refine hd_ipush (z := 1) pkX19_divisorOf rfl ?_
  refine hd_iast (n := 30) pkX19_divisorOf rfl (ghc2.cell 2 rfl) (by decide) (by omega) (by omega) (fun hh3 ehh3 => ?_)
  have ghh3 : Str t19 r19 hh3 := by rw [ehh3]; exact ghc2.setA rfl
  have ezf : ga hh3 2515 = ga hc2 2515 := by
    rw [ehh3]
    exact ga_fun (by decide)
  have hC : Ch 140 2515 2516 [23, 24, 25] h hh3 := by
    rw [ehh3]
    exact hC.sgn (by decide) (by decide) (by decide)
  have N3 : Num (ga hh3 2515) 140 23 := by rw [ezf]; exact N3
  have v3 : vl (ga hh3 2515) 140 23 = va := by rw [ezf]; exact v3
  have N4 : Num (ga hh3 2515) 140 24 := by rw [ezf]; exact N4
  have v4 : vl (ga hh3 2515) 140 24 = vb := by rw [ezf]; exact v4
  refine hd_aload pkX19_divisorOf rfl rfl (Int.natCast_nonneg _) ?_
  refine hd_getR (n := 2516) pkX19_divisorOf rfl (ghh3.cell 0 rfl).1 (ghh3.cell 0 rfl).2.1 (ghh3.ref 1 rfl) ?_
  refine hd_ipush (z := 24) pkX19_divisorOf rfl ?_
  refine hd_ipush (z := 1) pkX19_divisorOf rfl ?_
  refine hd_iast (n := 30) pkX19_divisorOf rfl (ghh3.cell 2 rfl) (by decide) (by omega) (by omega) (fun hh4 ehh4 => ?_)
  have ghh4 : Str t19 r19 hh4 := by rw [ehh4]; exact ghh3.setA rfl
  have ezf : ga hh4 2515 = ga hh3 2515 := by
    rw [ehh4]
    exact ga_fun (by decide)
  have hC : Ch 140 2515 2516 [23, 24, 25] h hh4 := by
    rw [ehh4]
    exact hC.sgn (by decide) (by decide) (by decide)
  have N3 : Num (ga hh4 2515) 140 23 := by rw [ezf]; exact N3
  have v3 : vl (ga hh4 2515) 140 23 = va := by rw [ezf]; exact v3
  have N4 : Num (ga hh4 2515) 140 24 := by rw [ezf]; exact N4
  have v4 : vl (ga hh4 2515) 140 24 = vb := by rw [ezf]; exact v4
  have cut36 : ∀ (tw x y : Int) (hc : MH), Str t19 r19 hc → (Ch 140 2515 2516 [23, 24, 25] h hc) → (Num (ga hc 2515) 140 23) → (vl (ga hc 2515) 140 23 = x) → (Num (ga hc 2515) 140 24) → (vl (ga hc 2515) 140 24 = y) → (0 < x ∧ 0 < y ∧ 0 ≤ tw) → (x % 2 = 1 ∨ y % 2 = 1) → (gi x y * PD tw.toNat = gi va vb) → (x < PW m ∧ y < PW m) → (tw < 24 * (m : Int)) → MW KX19_divisorOf Q 0 0 (pcA pgX19_divisorOf 36) [(0, (2, ((2514 : Nat) : Int))), (1, (0, a)), (2, (0, b)), (3, (0, tw))] [] hc := by
    intro tw x y hc gc36 hC N3 v3 N4 v4 b1 b3 b4 b5 b6
    have lp36 : ∀ (N36 : Nat) (x y : Int) (hl2 : MH), Str t19 r19 hl2 → (Ch 140 2515 2516 [23, 24, 25] h hl2) → (Num (ga hl2 2515) 140 23) → (vl (ga hl2 2515) 140 23 = x) → (Num (ga hl2 2515) 140 24) → (vl (ga hl2 2515) 140 24 = y) → (0 < x ∧ 0 ≤ y) → (x % 2 = 1 ∨ y % 2 = 1) → (gi x y * PD tw.toNat = gi va vb) → (x < PW m ∧ y < PW m) → x + y < (N36 : Int) → MW KX19_divisorOf Q 0 0 (pcA pgX19_divisorOf 36) [(0, (2, ((2514 : Nat) : Int))), (1, (0, a)), (2, (0, b)), (3, (0, tw))] [] hl2 := by
      intro N36
      induction N36 with
      | zero => intro x y hl2 g36 hC N3 v3 N4 v4 b1 b3 b4 b5 hm36; exfalso; omega
      | succ N36 ih36 =>
        intro x y hl2 g36 hC N3 v3 N4 v4 b1 b3 b4 b5 hm36
        have z4 : sz (ga hl2 2515) 140 24 = ga hl2 2515 3360 := rfl
        have z5 := N4.1
        obtain ⟨S9, hS9⟩ : ∃ S9 : Int, S9 = x + y := ⟨_, rfl⟩
        refine hd_aload pkX19_divisorOf rfl rfl (Int.natCast_nonneg _) ?_
        refine hd_getR (n := 2515) pkX19_divisorOf rfl (g36.cell 0 rfl).1 (g36.cell 0 rfl).2.1 (g36.ref 0 rfl) ?_
        refine hd_ipush (z := 3360) pkX19_divisorOf rfl ?_
        refine hd_iald (n := 4200) pkX19_divisorOf rfl (g36.cell 1 rfl) (by omega) (by omega) (fun v5 ev5 rv5 => ?_)
        refine hd_if_le pkX19_divisorOf rfl (fun c6 => ?_) (fun c6 => ?_)
        · skip
          refine hd_ipush (z := 0) pkX19_divisorOf rfl ?_
          refine hd_istore pkX19_divisorOf rfl rfl ?_
          change MW _ _ _ _ _ [(4, (0, 0)), (0, (2, ((2514 : Nat) : Int))), (1, (0, a)), (2, (0, b)), (3, (0, tw))] _ _
          have lp81 : ∀ (N81 : Nat) (k x : Int) (hl5 : MH), Str t19 r19 hl5 → (Ch 140 2515 2516 [23, 24, 25] h hl5) → (Num (ga hl5 2515) 140 23) → (vl (ga hl5 2515) 140 23 = x) → (0 ≤ k ∧ k ≤ tw) → (x * PD (tw - k).toNat = gi va vb) → (0 < x) → tw - k < (N81 : Int) → MW KX19_divisorOf Q 0 0 (pcA pgX19_divisorOf 81) [(0, (2, ((2514 : Nat) : Int))), (1, (0, a)), (2, (0, b)), (3, (0, tw)), (4, (0, k))] [] hl5 := by
            intro N81
            induction N81 with
            | zero => intro k x hl5 g81 hC N3 v3 d1 d2 d3 hm81; exfalso; omega
            | succ N81 ih81 =>
              intro k x hl5 g81 hC N3 v3 d1 d2 d3 hm81
              have gle := gi_le hva vb
              have xle : x ≤ gi va vb := by
                have p := PD_pos (tw - k).toNat
                have := Int.mul_le_mul_of_nonneg_left (show 1 ≤ PD (tw - k).toNat by omega) (Int.le_of_lt d3)
                omega
              refine hd_iload pkX19_divisorOf rfl rfl ?_
              refine hd_iload pkX19_divisorOf rfl rfl ?_
              refine hd_ic_ge pkX19_divisorOf rfl (fun c7 => ?_) (fun c7 => ?_)
              · skip
                refine hd_vret pkX19_divisorOf rfl ?_
                subst eQ
                refine ⟨rfl, hC, N3, ?_⟩
                have e : tw - k = 0 := by omega
                rw [e] at d2
                have p0 : PD (0 : Int).toNat = 1 := rfl
                rw [p0, Int.mul_one] at d2
                rw [v3, d2]
              · skip
                refine hd_aload pkX19_divisorOf rfl rfl (Int.natCast_nonneg _) ?_
                refine hd_ipush (z := 23) pkX19_divisorOf rfl ?_
                refine hd_ipush (z := 23) pkX19_divisorOf rfl ?_
                refine hd_callV pkX19_divisorOf rfl (q := (KX19_addPlain, yX19_addPlain, 19, 2, 0)) rfl rfl rfl (As := [(0, 23), (0, 23)]) (rest := []) (c := 2514) rfl rfl (Nat.le_of_ble_eq_true rfl) (g81.cell 0 rfl).1 (g81.cell 0 rfl).2.1 (h_X19_addPlain (m := (m : Int)) (by decide) (by decide) (by decide) (by decide) N3 N3 (sz_le N3 (by rw [v3]; omega)) (sz_le N3 (by rw [v3]; omega)) (by omega) g81) (hd_bV (fun hc8 p15 => ?_))
                have ghc8 : Str t19 r19 hc8 := g81.only p15.1.1 (by decide)
                have hC := hC.trans (p15.1.mono (by intro n hn; simp only [List.mem_cons, List.not_mem_nil, or_false] at hn ⊢; omega))
                have v3 : vl (ga hc8 2515) 140 23 = x + x := by rw [p15.2.2.1, v3]
                have N3 := p15.2.1
                refine hd_iinc (z := 1) pkX19_divisorOf rfl rfl (by omega) rfl ?_
                change MW _ _ _ _ _ [(4, (0, (k + 1))), (0, (2, ((2514 : Nat) : Int))), (1, (0, a)), (2, (0, b)), (3, (0, tw))] _ _
                refine hd_goto pkX19_divisorOf rfl ?_
                refine m_sub [(0, (2, ((2514 : Nat) : Int))), (1, (0, a)), (2, (0, b)), (3, (0, tw)), (4, (0, (k + 1)))] (List.forall_mem_cons.mpr ⟨rfl, List.forall_mem_cons.mpr ⟨rfl, List.forall_mem_cons.mpr ⟨rfl, List.forall_mem_cons.mpr ⟨rfl, List.forall_mem_cons.mpr ⟨rfl, fun _ h => absurd h List.not_mem_nil⟩⟩⟩⟩⟩) ?_
                refine ih81  ((k + 1)) (x + x) hc8 ghc8 ?_ ?_ ?_ ?_ ?_ ?_ ?_
                · exact hC
                · exact N3
                · exact v3
                · omega
                · rw [← d2]
                  have e : tw - k = (tw - (k + 1)) + 1 := by omega
                  rw [e, PD_s _ (by omega), ← Int.mul_assoc, Int.mul_comm x 2]
                  have e2 : x + x = 2 * x := by omega
                  rw [e2]
                · omega
                · omega
          refine m_sub [(0, (2, ((2514 : Nat) : Int))), (1, (0, a)), (2, (0, b)), (3, (0, tw)), (4, (0, 0))] (List.forall_mem_cons.mpr ⟨rfl, List.forall_mem_cons.mpr ⟨rfl, List.forall_mem_cons.mpr ⟨rfl, List.forall_mem_cons.mpr ⟨rfl, List.forall_mem_cons.mpr ⟨rfl, fun _ h => absurd h List.not_mem_nil⟩⟩⟩⟩⟩) ?_
          refine lp81 ((tw - (0)) + 1).toNat (0) (x) hl2 g36 ?_ ?_ ?_ ?_ ?_ ?_ ?_
          · exact hC
          · exact N3
          · exact v3
          · omega
          · rw [Int.sub_zero, ← b4]
            have y0 : y = 0 := by have := (vl_zero N4).mpr (by omega); omega
            rw [y0, gi_zero (by omega)]
          · exact b1.1
          · omega
        · skip
          have lp41 : ∀ (N41 : Nat) (x y : Int) (hl3 : MH), Str t19 r19 hl3 → (Ch 140 2515 2516 [23, 24, 25] h hl3) → (Num (ga hl3 2515) 140 23) → (vl (ga hl3 2515) 140 23 = x) → (Num (ga hl3 2515) 140 24) → (vl (ga hl3 2515) 140 24 = y) → (0 < x ∧ 0 < y) → (x % 2 = 1 ∨ y % 2 = 1) → (gi x y * PD tw.toNat = gi va vb) → (x < PW m ∧ y < PW m) → (x + y ≤ S9) → x < (N41 : Int) → MW KX19_divisorOf Q 0 0 (pcA pgX19_divisorOf 41) [(0, (2, ((2514 : Nat) : Int))), (1, (0, a)), (2, (0, b)), (3, (0, tw))] [] hl3 := by
            intro N41
            induction N41 with
            | zero => intro x y hl3 g41 hC N3 v3 N4 v4 b1 b3 b4 b5 b7 hm41; exfalso; omega
            | succ N41 ih41 =>
              intro x y hl3 g41 hC N3 v3 N4 v4 b1 b3 b4 b5 b7 hm41
              refine hd_aload pkX19_divisorOf rfl rfl (Int.natCast_nonneg _) ?_
              refine hd_ipush (z := 23) pkX19_divisorOf rfl ?_
              refine hd_callV pkX19_divisorOf rfl (q := (KX19_isEven, yX19_isEven, 19, 1, 0)) rfl rfl rfl (As := [(0, 23)]) (rest := []) (c := 2514) rfl rfl (Nat.le_of_ble_eq_true rfl) (g41.cell 0 rfl).1 (g41.cell 0 rfl).2.1 (h_X19_isEven (by decide) (by decide) N3.1 N3.2.1 g41) (hd_bI (fun w9 hc10 p11 => ?_))
              obtain ⟨p11, ehc10⟩ := p11
              replace ehc10 := ehc10.symm
              subst ehc10
              have e9 := vl_par N3
              rw [v3] at e9
              have w9 : (w9 = 1 ↔ x % 2 = 0) ∧ (w9 = 0 ↔ x % 2 = 1) := by
                rw [p11, ← e9]
                split <;> omega
              refine hd_if_eq pkX19_divisorOf rfl (fun c12 => ?_) (fun c12 => ?_)
              · skip
                have lp49 : ∀ (N49 : Nat) (x y : Int) (hl4 : MH), Str t19 r19 hl4 → (Ch 140 2515 2516 [23, 24, 25] h hl4) → (Num (ga hl4 2515) 140 23) → (vl (ga hl4 2515) 140 23 = x) → (Num (ga hl4 2515) 140 24) → (vl (ga hl4 2515) 140 24 = y) → (0 < x ∧ 0 < y) → (x % 2 = 1) → (gi x y * PD tw.toNat = gi va vb) → (x < PW m ∧ y < PW m) → (x + y ≤ S9) → y < (N49 : Int) → MW KX19_divisorOf Q 0 0 (pcA pgX19_divisorOf 49) [(0, (2, ((2514 : Nat) : Int))), (1, (0, a)), (2, (0, b)), (3, (0, tw))] [] hl4 := by
                  intro N49
                  induction N49 with
                  | zero => intro x y hl4 g49 hC N3 v3 N4 v4 b1 b3 b4 b5 b7 hm49; exfalso; omega
                  | succ N49 ih49 =>
                    intro x y hl4 g49 hC N3 v3 N4 v4 b1 b3 b4 b5 b7 hm49
                    refine hd_aload pkX19_divisorOf rfl rfl (Int.natCast_nonneg _) ?_
                    refine hd_ipush (z := 24) pkX19_divisorOf rfl ?_
                    refine hd_callV pkX19_divisorOf rfl (q := (KX19_isEven, yX19_isEven, 19, 1, 0)) rfl rfl rfl (As := [(0, 24)]) (rest := []) (c := 2514) rfl rfl (Nat.le_of_ble_eq_true rfl) (g49.cell 0 rfl).1 (g49.cell 0 rfl).2.1 (h_X19_isEven (by decide) (by decide) N4.1 N4.2.1 g49) (hd_bI (fun w13 hc14 p15 => ?_))
                    obtain ⟨p15, ehc14⟩ := p15
                    replace ehc14 := ehc14.symm
                    subst ehc14
                    have e9 := vl_par N4
                    rw [v4] at e9
                    have w9 : (w13 = 1 ↔ y % 2 = 0) ∧ (w13 = 0 ↔ y % 2 = 1) := by
                      rw [p15, ← e9]
                      split <;> omega
                    refine hd_if_eq pkX19_divisorOf rfl (fun c16 => ?_) (fun c16 => ?_)
                    · skip
                      refine hd_aload pkX19_divisorOf rfl rfl (Int.natCast_nonneg _) ?_
                      refine hd_ipush (z := 24) pkX19_divisorOf rfl ?_
                      refine hd_ipush (z := 23) pkX19_divisorOf rfl ?_
                      refine hd_callV pkX19_divisorOf rfl (q := (KX19_compare, yX19_compare, 19, 2, 0)) rfl rfl rfl (As := [(0, 24), (0, 23)]) (rest := []) (c := 2514) rfl rfl (Nat.le_of_ble_eq_true rfl) (g49.cell 0 rfl).1 (g49.cell 0 rfl).2.1 (h_X19_compare (by decide) (by decide) (by decide) (by decide) N4 N3 g49) (hd_bI (fun w17 hc18 pc => ?_))
                      obtain ⟨pc, ehc18⟩ := pc
                      replace ehc18 := ehc18.symm
                      subst ehc18
                      rw [v3, v4] at pc
                      refine hd_if_ge pkX19_divisorOf rfl (fun c19 => ?_) (fun c19 => ?_)
                      · skip
                        have hxy : x ≤ y := by omega
                        refine hd_aload pkX19_divisorOf rfl rfl (Int.natCast_nonneg _) ?_
                        refine hd_ipush (z := 24) pkX19_divisorOf rfl ?_
                        refine hd_ipush (z := 23) pkX19_divisorOf rfl ?_
                        have v4o := v4
                        have v3o := v3
                        refine hd_callV pkX19_divisorOf rfl (q := (KX19_takePlain, yX19_takePlain, 19, 2, 0)) rfl rfl rfl (As := [(0, 24), (0, 23)]) (rest := []) (c := 2514) rfl rfl (Nat.le_of_ble_eq_true rfl) (g49.cell 0 rfl).1 (g49.cell 0 rfl).2.1 (h_X19_takePlain (by decide) (by decide) (by decide) (by decide) N4 N3 (by rw [v3, v4]; omega) g49) (hd_bV (fun hc20 p14 => ?_))
                        have ghc20 : Str t19 r19 hc20 := g49.only p14.1.1 (by decide)
                        have hC := hC.trans (p14.1.mono (by intro n hn; simp only [List.mem_cons, List.not_mem_nil, or_false] at hn ⊢; omega))
                        have q3 := p14.1.num (by decide) (n := 23) (by decide) (by first | decide | (simp only [List.mem_cons, List.not_mem_nil, or_false]; omega)) N3
                        have v3 := q3.2.1.trans v3
                        have N3 := q3.1
                        have v4 : vl (ga hc20 2515) 140 24 = y - x := by rw [p14.2.2.1, v4o, v3o]
                        have N4 := p14.2.1
                        refine hd_goto pkX19_divisorOf rfl ?_
                        refine ih36  (x) (y - x) hc20 ghc20 ?_ ?_ ?_ ?_ ?_ ?_ ?_ ?_ ?_ ?_
                        · exact hC
                        · exact N3
                        · exact v3
                        · exact N4
                        · exact v4
                        · omega
                        · omega
                        · rw [gi_sub]
                          exact b4
                        · omega
                        · omega
                      · skip
                        have hxy : y < x := by omega
                        refine hd_aload pkX19_divisorOf rfl rfl (Int.natCast_nonneg _) ?_
                        refine hd_ipush (z := 23) pkX19_divisorOf rfl ?_
                        refine hd_ipush (z := 25) pkX19_divisorOf rfl ?_
                        have v3o := v3
                        refine hd_callV pkX19_divisorOf rfl (q := (KX19_copy, yX19_copy, 19, 2, 0)) rfl rfl rfl (As := [(0, 23), (0, 25)]) (rest := []) (c := 2514) rfl rfl (Nat.le_of_ble_eq_true rfl) (g49.cell 0 rfl).1 (g49.cell 0 rfl).2.1 (h_X19_copy (by decide) (by decide) (by decide) (by decide) N3 g49) (hd_bV (fun hc21 p11 => ?_))
                        have ghc21 : Str t19 r19 hc21 := g49.only p11.1.1 (by decide)
                        have hC := hC.trans (p11.1.mono (by intro n hn; simp only [List.mem_cons, List.not_mem_nil, or_false] at hn ⊢; omega))
                        have q3 := p11.1.num (by decide) (n := 23) (by decide) (by first | decide | (simp only [List.mem_cons, List.not_mem_nil, or_false]; omega)) N3
                        have v3 := q3.2.1.trans v3
                        have N3 := q3.1
                        have q4 := p11.1.num (by decide) (n := 24) (by decide) (by first | decide | (simp only [List.mem_cons, List.not_mem_nil, or_false]; omega)) N4
                        have v4 := q4.2.1.trans v4
                        have N4 := q4.1
                        have v5 : vl (ga hc21 2515) 140 25 = x := p11.2.2.1.trans v3o
                        have N5 := p11.2.1
                        refine hd_aload pkX19_divisorOf rfl rfl (Int.natCast_nonneg _) ?_
                        refine hd_ipush (z := 24) pkX19_divisorOf rfl ?_
                        refine hd_ipush (z := 23) pkX19_divisorOf rfl ?_
                        have v4o := v4
                        refine hd_callV pkX19_divisorOf rfl (q := (KX19_copy, yX19_copy, 19, 2, 0)) rfl rfl rfl (As := [(0, 24), (0, 23)]) (rest := []) (c := 2514) rfl rfl (Nat.le_of_ble_eq_true rfl) (ghc21.cell 0 rfl).1 (ghc21.cell 0 rfl).2.1 (h_X19_copy (by decide) (by decide) (by decide) (by decide) N4 ghc21) (hd_bV (fun hc22 p12 => ?_))
                        have ghc22 : Str t19 r19 hc22 := ghc21.only p12.1.1 (by decide)
                        have hC := hC.trans (p12.1.mono (by intro n hn; simp only [List.mem_cons, List.not_mem_nil, or_false] at hn ⊢; omega))
                        have q4 := p12.1.num (by decide) (n := 24) (by decide) (by first | decide | (simp only [List.mem_cons, List.not_mem_nil, or_false]; omega)) N4
                        have v4 := q4.2.1.trans v4
                        have N4 := q4.1
                        have q5 := p12.1.num (by decide) (n := 25) (by decide) (by first | decide | (simp only [List.mem_cons, List.not_mem_nil, or_false]; omega)) N5
                        have v5 := q5.2.1.trans v5
                        have N5 := q5.1
                        have v3 : vl (ga hc22 2515) 140 23 = y := p12.2.2.1.trans v4o
                        have N3 := p12.2.1
                        refine hd_aload pkX19_divisorOf rfl rfl (Int.natCast_nonneg _) ?_
                        refine hd_ipush (z := 25) pkX19_divisorOf rfl ?_
                        refine hd_ipush (z := 24) pkX19_divisorOf rfl ?_
                        have v5o := v5
                        refine hd_callV pkX19_divisorOf rfl (q := (KX19_copy, yX19_copy, 19, 2, 0)) rfl rfl rfl (As := [(0, 25), (0, 24)]) (rest := []) (c := 2514) rfl rfl (Nat.le_of_ble_eq_true rfl) (ghc22.cell 0 rfl).1 (ghc22.cell 0 rfl).2.1 (h_X19_copy (by decide) (by decide) (by decide) (by decide) N5 ghc22) (hd_bV (fun hc23 p13 => ?_))
                        have ghc23 : Str t19 r19 hc23 := ghc22.only p13.1.1 (by decide)
                        have hC := hC.trans (p13.1.mono (by intro n hn; simp only [List.mem_cons, List.not_mem_nil, or_false] at hn ⊢; omega))
                        have q3 := p13.1.num (by decide) (n := 23) (by decide) (by first | decide | (simp only [List.mem_cons, List.not_mem_nil, or_false]; omega)) N3
                        have v3 := q3.2.1.trans v3
                        have N3 := q3.1
                        have q5 := p13.1.num (by decide) (n := 25) (by decide) (by first | decide | (simp only [List.mem_cons, List.not_mem_nil, or_false]; omega)) N5
                        have v5 := q5.2.1.trans v5
                        have N5 := q5.1
                        have v4 : vl (ga hc23 2515) 140 24 = x := p13.2.2.1.trans v5o
                        have N4 := p13.2.1
                        refine hd_aload pkX19_divisorOf rfl rfl (Int.natCast_nonneg _) ?_
                        refine hd_ipush (z := 24) pkX19_divisorOf rfl ?_
                        refine hd_ipush (z := 23) pkX19_divisorOf rfl ?_
                        have v4o := v4
                        have v3o := v3
                        refine hd_callV pkX19_divisorOf rfl (q := (KX19_takePlain, yX19_takePlain, 19, 2, 0)) rfl rfl rfl (As := [(0, 24), (0, 23)]) (rest := []) (c := 2514) rfl rfl (Nat.le_of_ble_eq_true rfl) (ghc23.cell 0 rfl).1 (ghc23.cell 0 rfl).2.1 (h_X19_takePlain (by decide) (by decide) (by decide) (by decide) N4 N3 (by rw [v3, v4]; omega) ghc23) (hd_bV (fun hc24 p14 => ?_))
                        have ghc24 : Str t19 r19 hc24 := ghc23.only p14.1.1 (by decide)
                        have hC := hC.trans (p14.1.mono (by intro n hn; simp only [List.mem_cons, List.not_mem_nil, or_false] at hn ⊢; omega))
                        have q3 := p14.1.num (by decide) (n := 23) (by decide) (by first | decide | (simp only [List.mem_cons, List.not_mem_nil, or_false]; omega)) N3
                        have v3 := q3.2.1.trans v3
                        have N3 := q3.1
                        have v4 : vl (ga hc24 2515) 140 24 = x - y := by rw [p14.2.2.1, v4o, v3o]
                        have N4 := p14.2.1
                        refine hd_goto pkX19_divisorOf rfl ?_
                        refine ih36  (y) (x - y) hc24 ghc24 ?_ ?_ ?_ ?_ ?_ ?_ ?_ ?_ ?_ ?_
                        · exact hC
                        · exact N3
                        · exact v3
                        · exact N4
                        · exact v4
                        · omega
                        · omega
                        · rw [gi_sub, gi_comm]
                          exact b4
                        · omega
                        · omega
                    · skip
                      refine hd_aload pkX19_divisorOf rfl rfl (Int.natCast_nonneg _) ?_
                      refine hd_ipush (z := 24) pkX19_divisorOf rfl ?_
                      refine hd_callV pkX19_divisorOf rfl (q := (KX19_halve, yX19_halve, 19, 1, 0)) rfl rfl rfl (As := [(0, 24)]) (rest := []) (c := 2514) rfl rfl (Nat.le_of_ble_eq_true rfl) (g49.cell 0 rfl).1 (g49.cell 0 rfl).2.1 (h_X19_halve (by decide) (by decide) N4 g49) (hd_bV (fun hc25 p9 => ?_))
                      have ghc25 : Str t19 r19 hc25 := g49.only p9.1.1 (by decide)
                      have hC := hC.trans (p9.1.mono (by intro n hn; simp only [List.mem_cons, List.not_mem_nil, or_false] at hn ⊢; omega))
                      have q3 := p9.1.num (by decide) (n := 23) (by decide) (by first | decide | (simp only [List.mem_cons, List.not_mem_nil, or_false]; omega)) N3
                      have v3 := q3.2.1.trans v3
                      have N3 := q3.1
                      have v4 : vl (ga hc25 2515) 140 24 = y / 2 := by rw [p9.2.2.1, v4]
                      have N4 := p9.2.1
                      refine hd_goto pkX19_divisorOf rfl ?_
                      refine ih49  (x) (y / 2) hc25 ghc25 ?_ ?_ ?_ ?_ ?_ ?_ ?_ ?_ ?_ ?_ ?_
                      · exact hC
                      · exact N3
                      · exact v3
                      · exact N4
                      · exact v4
                      · omega
                      · exact b3
                      · rw [gi_comm, gi_half (by omega) (by omega), gi_comm]
                        exact b4
                      · omega
                      · omega
                      · omega
                refine lp49 (((y)) + 1).toNat (x) (y) hl3 g41 ?_ ?_ ?_ ?_ ?_ ?_ ?_ ?_ ?_ ?_ ?_
                · exact hC
                · exact N3
                · exact v3
                · exact N4
                · exact v4
                · exact b1
                · omega
                · exact b4
                · exact b5
                · exact b7
                · omega
              · skip
                refine hd_aload pkX19_divisorOf rfl rfl (Int.natCast_nonneg _) ?_
                refine hd_ipush (z := 23) pkX19_divisorOf rfl ?_
                refine hd_callV pkX19_divisorOf rfl (q := (KX19_halve, yX19_halve, 19, 1, 0)) rfl rfl rfl (As := [(0, 23)]) (rest := []) (c := 2514) rfl rfl (Nat.le_of_ble_eq_true rfl) (g41.cell 0 rfl).1 (g41.cell 0 rfl).2.1 (h_X19_halve (by decide) (by decide) N3 g41) (hd_bV (fun hc26 p7 => ?_))
                have ghc26 : Str t19 r19 hc26 := g41.only p7.1.1 (by decide)
                have hC := hC.trans (p7.1.mono (by intro n hn; simp only [List.mem_cons, List.not_mem_nil, or_false] at hn ⊢; omega))
                have q4 := p7.1.num (by decide) (n := 24) (by decide) (by first | decide | (simp only [List.mem_cons, List.not_mem_nil, or_false]; omega)) N4
                have v4 := q4.2.1.trans v4
                have N4 := q4.1
                have v3 : vl (ga hc26 2515) 140 23 = x / 2 := by rw [p7.2.2.1, v3]
                have N3 := p7.2.1
                refine hd_goto pkX19_divisorOf rfl ?_
                refine ih41  (x / 2) (y) hc26 ghc26 ?_ ?_ ?_ ?_ ?_ ?_ ?_ ?_ ?_ ?_ ?_
                · exact hC
                · exact N3
                · exact v3
                · exact N4
                · exact v4
                · omega
                · omega
                · rw [gi_half (by omega) (by omega)]
                  exact b4
                · omega
                · omega
                · omega
          refine lp41 (((x)) + 1).toNat (x) (y) hl2 g36 ?_ ?_ ?_ ?_ ?_ ?_ ?_ ?_ ?_ ?_ ?_
          · exact hC
          · exact N3
          · exact v3
          · exact N4
          · exact v4
          · have := vl_zero N4
            rw [v4] at this
            omega
          · exact b3
          · exact b4
          · exact b5
          · omega
          · omega
    refine lp36 (((x) + (y)) + 1).toNat (x) (y) hc gc36 ?_ ?_ ?_ ?_ ?_ ?_ ?_ ?_ ?_ ?_
    · exact hC
    · exact N3
    · exact v3
    · exact N4
    · exact v4
    · omega
    · exact b3
    · exact b4
    · exact b5
    · omega
  refine hd_ipush (z := 0) pkX19_divisorOf rfl ?_
  refine hd_istore pkX19_divisorOf rfl rfl ?_
  change MW _ _ _ _ _ [(3, (0, 0)), (0, (2, ((2514 : Nat) : Int))), (1, (0, a)), (2, (0, b))] _ _
  have lp20 : ∀ (N20 : Nat) (tw x y : Int) (hl1 : MH), Str t19 r19 hl1 → (Ch 140 2515 2516 [23, 24, 25] h hl1) → (Num (ga hl1 2515) 140 23) → (vl (ga hl1 2515) 140 23 = x) → (Num (ga hl1 2515) 140 24) → (vl (ga hl1 2515) 140 24 = y) → (0 < x ∧ 0 < y ∧ 0 ≤ tw) → (x * PD tw.toNat = va ∧ y * PD tw.toNat = vb) → x < (N20 : Int) → MW KX19_divisorOf Q 0 0 (pcA pgX19_divisorOf 20) [(0, (2, ((2514 : Nat) : Int))), (1, (0, a)), (2, (0, b)), (3, (0, tw))] [] hl1 := by
    intro N20
    induction N20 with
    | zero => intro tw x y hl1 g20 hC N3 v3 N4 v4 b1 b2 hm20; exfalso; omega
    | succ N20 ih20 =>
      intro tw x y hl1 g20 hC N3 v3 N4 v4 b1 b2 hm20
      have tb := PD_bound b1.1 b1.2.2 b2.1 ham
      refine hd_aload pkX19_divisorOf rfl rfl (Int.natCast_nonneg _) ?_
      refine hd_ipush (z := 23) pkX19_divisorOf rfl ?_
      refine hd_callV pkX19_divisorOf rfl (q := (KX19_isEven, yX19_isEven, 19, 1, 0)) rfl rfl rfl (As := [(0, 23)]) (rest := []) (c := 2514) rfl rfl (Nat.le_of_ble_eq_true rfl) (g20.cell 0 rfl).1 (g20.cell 0 rfl).2.1 (h_X19_isEven (by decide) (by decide) N3.1 N3.2.1 g20) (hd_bI (fun w27 hc28 p29 => ?_))
      obtain ⟨p29, ehc28⟩ := p29
      replace ehc28 := ehc28.symm
      subst ehc28
      have e9 := vl_par N3
      rw [v3] at e9
      have w9 : (w27 = 1 ↔ x % 2 = 0) ∧ (w27 = 0 ↔ x % 2 = 1) := by
        rw [p29, ← e9]
        split <;> omega
      refine hd_if_eq pkX19_divisorOf rfl (fun c30 => ?_) (fun c30 => ?_)
      · skip
        refine cut36 (tw) (x) (y) hl1 g20 ?_ ?_ ?_ ?_ ?_ ?_ ?_ ?_ ?_ ?_
        · exact hC
        · exact N3
        · exact v3
        · exact N4
        · exact v4
        · exact b1
        · omega
        · rw [← b2.1, ← b2.2]
          exact (gi_PD x y tw.toNat).symm
        · exact ⟨lt_PD b1.1 b2.1 ham, lt_PD b1.2.1 b2.2 hbm⟩
        · exact tb
      · skip
        refine hd_aload pkX19_divisorOf rfl rfl (Int.natCast_nonneg _) ?_
        refine hd_ipush (z := 24) pkX19_divisorOf rfl ?_
        refine hd_callV pkX19_divisorOf rfl (q := (KX19_isEven, yX19_isEven, 19, 1, 0)) rfl rfl rfl (As := [(0, 24)]) (rest := []) (c := 2514) rfl rfl (Nat.le_of_ble_eq_true rfl) (g20.cell 0 rfl).1 (g20.cell 0 rfl).2.1 (h_X19_isEven (by decide) (by decide) N4.1 N4.2.1 g20) (hd_bI (fun w31 hc32 p33 => ?_))
        obtain ⟨p33, ehc32⟩ := p33
        replace ehc32 := ehc32.symm
        subst ehc32
        have e9 := vl_par N4
        rw [v4] at e9
        have w9 : (w31 = 1 ↔ y % 2 = 0) ∧ (w31 = 0 ↔ y % 2 = 1) := by
          rw [p33, ← e9]
          split <;> omega
        refine hd_if_eq pkX19_divisorOf rfl (fun c34 => ?_) (fun c34 => ?_)
        · skip
          refine cut36 (tw) (x) (y) hl1 g20 ?_ ?_ ?_ ?_ ?_ ?_ ?_ ?_ ?_ ?_
          · exact hC
          · exact N3
          · exact v3
          · exact N4
          · exact v4
          · exact b1
          · omega
          · rw [← b2.1, ← b2.2]
            exact (gi_PD x y tw.toNat).symm
          · exact ⟨lt_PD b1.1 b2.1 ham, lt_PD b1.2.1 b2.2 hbm⟩
          · exact tb
        · skip
          refine hd_aload pkX19_divisorOf rfl rfl (Int.natCast_nonneg _) ?_
          refine hd_ipush (z := 23) pkX19_divisorOf rfl ?_
          refine hd_callV pkX19_divisorOf rfl (q := (KX19_halve, yX19_halve, 19, 1, 0)) rfl rfl rfl (As := [(0, 23)]) (rest := []) (c := 2514) rfl rfl (Nat.le_of_ble_eq_true rfl) (g20.cell 0 rfl).1 (g20.cell 0 rfl).2.1 (h_X19_halve (by decide) (by decide) N3 g20) (hd_bV (fun hc35 p4 => ?_))
          have ghc35 : Str t19 r19 hc35 := g20.only p4.1.1 (by decide)
          have hC := hC.trans (p4.1.mono (by intro n hn; simp only [List.mem_cons, List.not_mem_nil, or_false] at hn ⊢; omega))
          have q4 := p4.1.num (by decide) (n := 24) (by decide) (by first | decide | (simp only [List.mem_cons, List.not_mem_nil, or_false]; omega)) N4
          have v4 := q4.2.1.trans v4
          have N4 := q4.1
          have v3 : vl (ga hc35 2515) 140 23 = x / 2 := by rw [p4.2.2.1, v3]
          have N3 := p4.2.1
          refine hd_aload pkX19_divisorOf rfl rfl (Int.natCast_nonneg _) ?_
          refine hd_ipush (z := 24) pkX19_divisorOf rfl ?_
          refine hd_callV pkX19_divisorOf rfl (q := (KX19_halve, yX19_halve, 19, 1, 0)) rfl rfl rfl (As := [(0, 24)]) (rest := []) (c := 2514) rfl rfl (Nat.le_of_ble_eq_true rfl) (ghc35.cell 0 rfl).1 (ghc35.cell 0 rfl).2.1 (h_X19_halve (by decide) (by decide) N4 ghc35) (hd_bV (fun hc36 p5 => ?_))
          have ghc36 : Str t19 r19 hc36 := ghc35.only p5.1.1 (by decide)
          have hC := hC.trans (p5.1.mono (by intro n hn; simp only [List.mem_cons, List.not_mem_nil, or_false] at hn ⊢; omega))
          have q3 := p5.1.num (by decide) (n := 23) (by decide) (by first | decide | (simp only [List.mem_cons, List.not_mem_nil, or_false]; omega)) N3
          have v3 := q3.2.1.trans v3
          have N3 := q3.1
          have v4 : vl (ga hc36 2515) 140 24 = y / 2 := by rw [p5.2.2.1, v4]
          have N4 := p5.2.1
          refine hd_iinc (z := 1) pkX19_divisorOf rfl rfl (by omega) rfl ?_
          change MW _ _ _ _ _ [(3, (0, (tw + 1))), (0, (2, ((2514 : Nat) : Int))), (1, (0, a)), (2, (0, b))] _ _
          refine hd_goto pkX19_divisorOf rfl ?_
          refine m_sub [(0, (2, ((2514 : Nat) : Int))), (1, (0, a)), (2, (0, b)), (3, (0, (tw + 1)))] (List.forall_mem_cons.mpr ⟨rfl, List.forall_mem_cons.mpr ⟨rfl, List.forall_mem_cons.mpr ⟨rfl, List.forall_mem_cons.mpr ⟨rfl, fun _ h => absurd h List.not_mem_nil⟩⟩⟩⟩) ?_
          refine ih20  ((tw + 1)) (x / 2) (y / 2) hc36 ghc36 ?_ ?_ ?_ ?_ ?_ ?_ ?_ ?_
          · exact hC
          · exact N3
          · exact v3
          · exact N4
          · exact v4
          · omega
          · rw [PD_s tw (by omega)]
            have ex : x = 2 * (x / 2) := by omega
            have ey : y = 2 * (y / 2) := by omega
            refine ⟨?_, ?_⟩
            · rw [← b2.1, ← Int.mul_assoc, Int.mul_comm (x / 2), ← ex]
            · rw [← b2.2, ← Int.mul_assoc, Int.mul_comm (y / 2), ← ey]
          · omega
  refine m_sub [(0, (2, ((2514 : Nat) : Int))), (1, (0, a)), (2, (0, b)), (3, (0, 0))] (List.forall_mem_cons.mpr ⟨rfl, List.forall_mem_cons.mpr ⟨rfl, List.forall_mem_cons.mpr ⟨rfl, List.forall_mem_cons.mpr ⟨rfl, fun _ h => absurd h List.not_mem_nil⟩⟩⟩⟩) ?_
  refine lp20 (((va)) + 1).toNat (0) (va) (vb) hh4 ghh4 ?_ ?_ ?_ ?_ ?_ ?_ ?_ ?_
  · exact hC
  · exact N3
  · exact v3
  · exact N4
  · exact v4
  · omega
  · exact ⟨Int.mul_one _, Int.mul_one _⟩
  · omega
set_option maxRecDepth 20000 in
set_option maxHeartbeats 8000000 in
theorem h_X19_exact {h : MH} {a va t : Int} {m : Nat} (ha : 0 ≤ a) (ha2 : a < 30) (an : a ∉ [21, 23, 24, 25]) (NA : Num (ga h 2515) 140 a) (vA : vl (ga h 2515) 140 a = va) (N3 : Num (ga h 2515) 140 23) (v3 : vl (ga h 2515) 140 23 = t) (hv : 0 < va) (ht : 0 < t) (hd : t ∣ va) (hvm : va < PW m) (hm : (m : Int) + 4 < 140) (hm1 : 1 ≤ m) (g : Str t19 r19 h) : MCal KX19_exact yX19_exact 0 0 [(2, ((2514 : Nat) : Int)), (0, a)] h (mRV fun h' => Ch 140 2515 2516 [a, 21, 24, 25] h h' ∧ Num (ga h' 2515) 140 a ∧ vl (ga h' 2515) 140 a * t = va ∧ ga h' 2516 a = ga h 2516 a) := by
  refine MCal.ofMW (Or.inl rfl) ⟨cp_X19, rfl⟩ (Nat.le_of_ble_eq_true rfl) ?_
  generalize eQ : (mRV fun h' => Ch 140 2515 2516 [a, 21, 24, 25] h h' ∧ Num (ga h' 2515) 140 a ∧ vl (ga h' 2515) 140 a * t = va ∧ ga h' 2516 a = ga h 2516 a : MO → MH → Prop) = Q
  change MW KX19_exact Q 0 0 (pcA pgX19_exact 0) [(0, (2, ((2514 : Nat) : Int))), (1, (0, a))] [] h
  refine hd_locI (i := 1) rfl (fun ra => ?_)
  simp only [List.mem_cons, List.not_mem_nil, or_false, not_or] at an
  have hC : Ch 140 2515 2516 [a, 21, 24, 25] h h := Ch.refl _ _ _ _ _
  have PWm : 16777216 ≤ PW m := PW_le hm1
  refine hd_aload pkX19_exact rfl rfl (Int.natCast_nonneg _) ?_
  refine hd_getR (n := 2516) pkX19_exact rfl (g.cell 0 rfl).1 (g.cell 0 rfl).2.1 (g.ref 1 rfl) ?_
  refine hd_iload pkX19_exact rfl rfl ?_
  refine hd_iald (n := 30) pkX19_exact rfl (g.cell 2 rfl) (by omega) (by omega) (fun v1 ev1 rv1 => ?_)
  refine hd_istore pkX19_exact rfl rfl ?_
  change MW _ _ _ _ _ [(2, (0, v1)), (0, (2, ((2514 : Nat) : Int))), (1, (0, a))] _ _
  refine hd_aload pkX19_exact rfl rfl (Int.natCast_nonneg _) ?_
  refine hd_iload pkX19_exact rfl rfl ?_
  refine hd_callV pkX19_exact rfl (q := (KX19_bits, yX19_bits, 19, 1, 0)) rfl rfl rfl (As := [(0, a)]) (rest := []) (c := 2514) rfl rfl (Nat.le_of_ble_eq_true rfl) (g.cell 0 rfl).1 (g.cell 0 rfl).2.1 (h_X19_bits ha ha2 NA g) (hd_bI (fun n1 hc2 pn1 => ?_))
  obtain ⟨pn1, ehc2⟩ := pn1
  replace ehc2 := ehc2.symm
  subst ehc2
  rw [vA] at pn1
  refine hd_aload pkX19_exact rfl rfl (Int.natCast_nonneg _) ?_
  refine hd_ipush (z := 23) pkX19_exact rfl ?_
  refine hd_callV pkX19_exact rfl (q := (KX19_bits, yX19_bits, 19, 1, 0)) rfl rfl rfl (As := [(0, 23)]) (rest := [(0, n1)]) (c := 2514) rfl rfl (Nat.le_of_ble_eq_true rfl) (g.cell 0 rfl).1 (g.cell 0 rfl).2.1 (h_X19_bits (by decide) (by decide) N3 g) (hd_bI (fun n2 hc3 pn2 => ?_))
  obtain ⟨pn2, ehc3⟩ := pn2
  replace ehc3 := ehc3.symm
  subst ehc3
  rw [v3] at pn2
  have tle := Int.le_of_dvd hv hd
  have sf := shift_fit (by omega) tle pn1.1 (pn1.2.2.2 (by omega)) pn2.1 (pn2.2.2.2 (by omega))
  have A2 := NA.2.1
  have B2 := N3.2.1
  refine hd_isub pkX19_exact rfl (by omega) ?_
  refine hd_istore pkX19_exact rfl rfl ?_
  change MW _ _ _ _ _ [(3, (0, (n1 - n2))), (2, (0, v1)), (0, (2, ((2514 : Nat) : Int))), (1, (0, a))] _ _
  refine hd_aload pkX19_exact rfl rfl (Int.natCast_nonneg _) ?_
  refine hd_ipush (z := 23) pkX19_exact rfl ?_
  refine hd_ipush (z := 24) pkX19_exact rfl ?_
  have v3o := v3
  refine hd_callV pkX19_exact rfl (q := (KX19_copy, yX19_copy, 19, 2, 0)) rfl rfl rfl (As := [(0, 23), (0, 24)]) (rest := []) (c := 2514) rfl rfl (Nat.le_of_ble_eq_true rfl) (g.cell 0 rfl).1 (g.cell 0 rfl).2.1 (h_X19_copy (by decide) (by decide) (by decide) (by decide) N3 g) (hd_bV (fun hc4 p2 => ?_))
  have ghc4 : Str t19 r19 hc4 := g.only p2.1.1 (by decide)
  have hC := hC.trans (p2.1.mono (by intro n hn; simp only [List.mem_cons, List.not_mem_nil, or_false] at hn ⊢; omega))
  have qA := p2.1.num (by decide) (n := a) ha (by first | decide | (simp only [List.mem_cons, List.not_mem_nil, or_false]; omega)) NA
  have vA := qA.2.1.trans vA
  have NA := qA.1
  have q3 := p2.1.num (by decide) (n := 23) (by decide) (by first | decide | (simp only [List.mem_cons, List.not_mem_nil, or_false]; omega)) N3
  have v3 := q3.2.1.trans v3
  have N3 := q3.1
  have v4 : vl (ga hc4 2515) 140 24 = t := p2.2.2.1.trans v3o
  have N4 := p2.2.1
  refine hd_ipush (z := 0) pkX19_exact rfl ?_
  refine hd_istore pkX19_exact rfl rfl ?_
  change MW _ _ _ _ _ [(4, (0, 0)), (3, (0, (n1 - n2))), (2, (0, v1)), (0, (2, ((2514 : Nat) : Int))), (1, (0, a))] _ _
  have lp19 : ∀ (N19 : Nat) (k f : Int) (hA : MH), Str t19 r19 hA → (Ch 140 2515 2516 [a, 21, 24, 25] h hA) → (Num (ga hA 2515) 140 a) → (vl (ga hA 2515) 140 a = va) → (Num (ga hA 2515) 140 24) → (vl (ga hA 2515) 140 24 = f) → (0 ≤ k ∧ k ≤ n1 - n2) → (f = t * PD k.toNat) → n1 - n2 - k < (N19 : Int) → MW KX19_exact Q 0 0 (pcA pgX19_exact 19) [(0, (2, ((2514 : Nat) : Int))), (1, (0, a)), (2, (0, v1)), (3, (0, (n1 - n2))), (4, (0, k))] [] hA := by
    intro N19
    induction N19 with
    | zero => intro k f hA g19 hC NA vA N4 v4 d1 d2 hm19; exfalso; omega
    | succ N19 ih19 =>
      intro k f hA g19 hC NA vA N4 v4 d1 d2 hm19
      have fle : f ≤ t * PD (n1 - n2).toNat := by
        rw [d2]
        exact Int.mul_le_mul_of_nonneg_left (PD_le (by omega)) (by omega)
      refine hd_iload pkX19_exact rfl rfl ?_
      refine hd_iload pkX19_exact rfl rfl ?_
      refine hd_ic_ge pkX19_exact rfl (fun c5 => ?_) (fun c5 => ?_)
      · skip
        refine hd_aload pkX19_exact rfl rfl (Int.natCast_nonneg _) ?_
        refine hd_ipush (z := 25) pkX19_exact rfl ?_
        refine hd_lpush (z := 0) pkX19_exact rfl ?_
        refine hd_callV pkX19_exact rfl (q := (KX19_small, yX19_small, 19, 2, 0)) rfl rfl rfl (As := [(0, 25), (1, 0)]) (rest := []) (c := 2514) rfl rfl (Nat.le_of_ble_eq_true rfl) (g19.cell 0 rfl).1 (g19.cell 0 rfl).2.1 (h_X19_small (by decide) (by decide) (by decide) g19) (hd_bV (fun hc6 p4 => ?_))
        have ghc6 : Str t19 r19 hc6 := g19.only p4.1.1 (by decide)
        have hC := hC.trans (p4.1.mono (by intro n hn; simp only [List.mem_cons, List.not_mem_nil, or_false] at hn ⊢; omega))
        have qA := p4.1.num (by decide) (n := a) ha (by first | decide | (simp only [List.mem_cons, List.not_mem_nil, or_false]; omega)) NA
        have vA := qA.2.1.trans vA
        have NA := qA.1
        have q4 := p4.1.num (by decide) (n := 24) (by decide) (by first | decide | (simp only [List.mem_cons, List.not_mem_nil, or_false]; omega)) N4
        have v4 := q4.2.1.trans v4
        have N4 := q4.1
        have v5 : vl (ga hc6 2515) 140 25 = 0 := p4.2.2.1.1 (by decide)
        have N5 := p4.2.1
        refine hd_iload pkX19_exact rfl rfl ?_
        refine hd_istore pkX19_exact rfl rfl ?_
        change MW _ _ _ _ _ [(4, (0, (n1 - n2))), (0, (2, ((2514 : Nat) : Int))), (1, (0, a)), (2, (0, v1)), (3, (0, (n1 - n2)))] _ _
        have lp34 : ∀ (N34 : Nat) (k f q r : Int) (hB : MH), Str t19 r19 hB → (Ch 140 2515 2516 [a, 21, 24, 25] h hB) → (Num (ga hB 2515) 140 a) → (vl (ga hB 2515) 140 a = r) → (Num (ga hB 2515) 140 24) → (vl (ga hB 2515) 140 24 = f) → (Num (ga hB 2515) 140 25) → (vl (ga hB 2515) 140 25 = q) → (-1 ≤ k ∧ k ≤ n1 - n2) → (0 ≤ k → f = t * PD k.toNat) → (0 ≤ q ∧ 0 ≤ r) → (q * (t * PD (k + 1).toNat) + r = va) → (r < t * PD (k + 1).toNat) → k + 1 < (N34 : Int) → MW KX19_exact Q 0 0 (pcA pgX19_exact 34) [(0, (2, ((2514 : Nat) : Int))), (1, (0, a)), (2, (0, v1)), (3, (0, (n1 - n2))), (4, (0, k))] [] hB := by
          intro N34
          induction N34 with
          | zero => intro k f q r hB g34 hC NA vA N4 v4 N5 v5 d1 f0 b2 b3 b4 hm34; exfalso; omega
          | succ N34 ih34 =>
            intro k f q r hB g34 hC NA vA N4 v4 N5 v5 d1 f0 b2 b3 b4 hm34
            have tp : 1 ≤ t * PD (k + 1).toNat := by
              have p := PD_pos (k + 1).toNat
              have := Int.mul_le_mul_of_nonneg_left (show 1 ≤ PD (k + 1).toNat by omega) (show 0 ≤ t by omega)
              omega
            have qle := quot_le b2.1 b2.2 tp b3
            refine hd_iload pkX19_exact rfl rfl ?_
            refine hd_if_lt pkX19_exact rfl (fun c7 => ?_) (fun c7 => ?_)
            · skip
              refine hd_aload pkX19_exact rfl rfl (Int.natCast_nonneg _) ?_
              refine hd_ipush (z := 25) pkX19_exact rfl ?_
              refine hd_iload pkX19_exact rfl rfl ?_
              refine hd_callV pkX19_exact rfl (q := (KX19_copy, yX19_copy, 19, 2, 0)) rfl rfl rfl (As := [(0, 25), (0, a)]) (rest := []) (c := 2514) rfl rfl (Nat.le_of_ble_eq_true rfl) (g34.cell 0 rfl).1 (g34.cell 0 rfl).2.1 (h_X19_copy (by decide) (by decide) ha ha2 N5 g34) (hd_bV (fun hc8 p11 => ?_))
              have ghc8 : Str t19 r19 hc8 := g34.only p11.1.1 (by decide)
              have hC := hC.trans (p11.1.mono (by intro n hn; simp only [List.mem_cons, List.not_mem_nil, or_false] at hn ⊢; omega))
              have vA : vl (ga hc8 2515) 140 a = q := p11.2.2.1.trans v5
              have NA := p11.2.1
              refine hd_aload pkX19_exact rfl rfl (Int.natCast_nonneg _) ?_
              refine hd_getR (n := 2516) pkX19_exact rfl (ghc8.cell 0 rfl).1 (ghc8.cell 0 rfl).2.1 (ghc8.ref 1 rfl) ?_
              refine hd_iload pkX19_exact rfl rfl ?_
              refine hd_iload pkX19_exact rfl rfl ?_
              refine hd_iast (n := 30) pkX19_exact rfl (ghc8.cell 2 rfl) (by decide) (by omega) (by omega) (fun hh9 ehh9 => ?_)
              have ghh9 : Str t19 r19 hh9 := by rw [ehh9]; exact ghc8.setA rfl
              have ezf : ga hh9 2515 = ga hc8 2515 := by
                rw [ehh9]
                exact ga_fun (by decide)
              have hC : Ch 140 2515 2516 [a, 21, 24, 25] h hh9 := by
                rw [ehh9]
                exact hC.sgn (by decide) ha List.mem_cons_self
              have NA : Num (ga hh9 2515) 140 a := by rw [ezf]; exact NA
              have vA : vl (ga hh9 2515) 140 a = q := by rw [ezf]; exact vA
              have SG : ga hh9 2516 a = ga h 2516 a := by
                rw [ehh9, ga_sa _ _ _ ha ha, if_pos rfl]
                exact ev1
              refine hd_vret pkX19_exact rfl ?_
              subst eQ
              have k9 : k + 1 = 0 := by omega
              rw [k9] at b3 b4
              have e9 := quot_end (by omega) b2.2 b3 b4 hd
              refine ⟨rfl, hC, NA, ?_, ?_⟩
              · rw [vA, e9]
              · rw [SG]
            · skip
              refine hd_aload pkX19_exact rfl rfl (Int.natCast_nonneg _) ?_
              refine hd_ipush (z := 25) pkX19_exact rfl ?_
              refine hd_ipush (z := 25) pkX19_exact rfl ?_
              refine hd_callV pkX19_exact rfl (q := (KX19_addPlain, yX19_addPlain, 19, 2, 0)) rfl rfl rfl (As := [(0, 25), (0, 25)]) (rest := []) (c := 2514) rfl rfl (Nat.le_of_ble_eq_true rfl) (g34.cell 0 rfl).1 (g34.cell 0 rfl).2.1 (h_X19_addPlain (m := (m : Int)) (by decide) (by decide) (by decide) (by decide) N5 N5 (sz_le N5 (by rw [v5]; omega)) (sz_le N5 (by rw [v5]; omega)) (by omega) g34) (hd_bV (fun hc10 p5 => ?_))
              have ghc10 : Str t19 r19 hc10 := g34.only p5.1.1 (by decide)
              have hC := hC.trans (p5.1.mono (by intro n hn; simp only [List.mem_cons, List.not_mem_nil, or_false] at hn ⊢; omega))
              have qA := p5.1.num (by decide) (n := a) ha (by first | decide | (simp only [List.mem_cons, List.not_mem_nil, or_false]; omega)) NA
              have vA := qA.2.1.trans vA
              have NA := qA.1
              have q4 := p5.1.num (by decide) (n := 24) (by decide) (by first | decide | (simp only [List.mem_cons, List.not_mem_nil, or_false]; omega)) N4
              have v4 := q4.2.1.trans v4
              have N4 := q4.1
              have v5 : vl (ga hc10 2515) 140 25 = 2 * q := by rw [p5.2.2.1, v5]; omega
              have N5 := p5.2.1
              refine hd_aload pkX19_exact rfl rfl (Int.natCast_nonneg _) ?_
              refine hd_iload pkX19_exact rfl rfl ?_
              refine hd_ipush (z := 24) pkX19_exact rfl ?_
              refine hd_callV pkX19_exact rfl (q := (KX19_compare, yX19_compare, 19, 2, 0)) rfl rfl rfl (As := [(0, a), (0, 24)]) (rest := []) (c := 2514) rfl rfl (Nat.le_of_ble_eq_true rfl) (ghc10.cell 0 rfl).1 (ghc10.cell 0 rfl).2.1 (h_X19_compare ha ha2 (by decide) (by decide) NA N4 ghc10) (hd_bI (fun w11 hc12 pc => ?_))
              obtain ⟨pc, ehc12⟩ := pc
              replace ehc12 := ehc12.symm
              subst ehc12
              rw [vA, v4] at pc
              have F0 := f0 (by omega)
              have qb := quot_bit (q := q) (r := r) (v := va) (t := t) (F := f) (k := k) (by omega) (by omega) F0 b3 b4
              have cut57 : ∀ (q2 r2 : Int) (hD : MH), Str t19 r19 hD → (Ch 140 2515 2516 [a, 21, 24, 25] h hD) → (Num (ga hD 2515) 140 a) → (vl (ga hD 2515) 140 a = r2) → (Num (ga hD 2515) 140 24) → (vl (ga hD 2515) 140 24 = f) → (Num (ga hD 2515) 140 25) → (vl (ga hD 2515) 140 25 = q2) → (q2 * (t * PD k.toNat) + r2 = va ∧ r2 < t * PD k.toNat) → (0 ≤ q2 ∧ 0 ≤ r2) → MW KX19_exact Q 0 0 (pcA pgX19_exact 57) [(0, (2, ((2514 : Nat) : Int))), (1, (0, a)), (2, (0, v1)), (3, (0, (n1 - n2))), (4, (0, k))] [] hD := by
                intro q2 r2 hD gc57 hC NA vA N4 v4 N5 v5 qq b5
                refine hd_aload pkX19_exact rfl rfl (Int.natCast_nonneg _) ?_
                refine hd_ipush (z := 24) pkX19_exact rfl ?_
                refine hd_callV pkX19_exact rfl (q := (KX19_halve, yX19_halve, 19, 1, 0)) rfl rfl rfl (As := [(0, 24)]) (rest := []) (c := 2514) rfl rfl (Nat.le_of_ble_eq_true rfl) (gc57.cell 0 rfl).1 (gc57.cell 0 rfl).2.1 (h_X19_halve (by decide) (by decide) N4 gc57) (hd_bV (fun hc13 p10 => ?_))
                have ghc13 : Str t19 r19 hc13 := gc57.only p10.1.1 (by decide)
                have hC := hC.trans (p10.1.mono (by intro n hn; simp only [List.mem_cons, List.not_mem_nil, or_false] at hn ⊢; omega))
                have qA := p10.1.num (by decide) (n := a) ha (by first | decide | (simp only [List.mem_cons, List.not_mem_nil, or_false]; omega)) NA
                have vA := qA.2.1.trans vA
                have NA := qA.1
                have q5 := p10.1.num (by decide) (n := 25) (by decide) (by first | decide | (simp only [List.mem_cons, List.not_mem_nil, or_false]; omega)) N5
                have v5 := q5.2.1.trans v5
                have N5 := q5.1
                have v4 : vl (ga hc13 2515) 140 24 = f / 2 := by rw [p10.2.2.1, v4]
                have N4 := p10.2.1
                refine hd_iinc (z := (-1)) pkX19_exact rfl rfl (by omega) rfl ?_
                change MW _ _ _ _ _ [(4, (0, (k + (-1)))), (0, (2, ((2514 : Nat) : Int))), (1, (0, a)), (2, (0, v1)), (3, (0, (n1 - n2)))] _ _
                refine hd_goto pkX19_exact rfl ?_
                refine m_sub [(0, (2, ((2514 : Nat) : Int))), (1, (0, a)), (2, (0, v1)), (3, (0, (n1 - n2))), (4, (0, (k + (-1))))] (List.forall_mem_cons.mpr ⟨rfl, List.forall_mem_cons.mpr ⟨rfl, List.forall_mem_cons.mpr ⟨rfl, List.forall_mem_cons.mpr ⟨rfl, List.forall_mem_cons.mpr ⟨rfl, fun _ h => absurd h List.not_mem_nil⟩⟩⟩⟩⟩) ?_
                refine ih34  ((k + (-1))) (f / 2) (q2) (r2) hc13 ghc13 ?_ ?_ ?_ ?_ ?_ ?_ ?_ ?_ ?_ ?_ ?_ ?_ ?_
                · exact hC
                · exact NA
                · exact vA
                · exact N4
                · exact v4
                · exact N5
                · exact v5
                · omega
                · intro w
                  rw [F0]
                  have e := PD_s (k + -1) w
                  have e2 : k + -1 + 1 = k := by omega
                  rw [e2] at e
                  rw [e, Int.mul_left_comm]
                  omega
                · omega
                · have e2 : k + -1 + 1 = k := by omega
                  rw [e2]
                  exact qq.1
                · have e2 : k + -1 + 1 = k := by omega
                  rw [e2]
                  exact qq.2
                · omega
              refine hd_if_lt pkX19_exact rfl (fun c14 => ?_) (fun c14 => ?_)
              · skip
                have hxy : r < f := by omega
                refine cut57 (2 * q) (r) hc10 ghc10 ?_ ?_ ?_ ?_ ?_ ?_ ?_ ?_ ?_
                · exact hC
                · exact NA
                · exact vA
                · exact N4
                · exact v4
                · exact N5
                · exact v5
                · exact qb.2 hxy
                · omega
              · skip
                have hxy : f ≤ r := by omega
                have tp2 : 1 ≤ t * PD k.toNat := by
                  have p := PD_pos k.toNat
                  have := Int.mul_le_mul_of_nonneg_left (show 1 ≤ PD k.toNat by omega) (show 0 ≤ t by omega)
                  omega
                have ql2 := quot_le (q := 2 * q + 1) (r := r - f) (by omega) (by omega) tp2 (qb.1 hxy).1
                refine hd_aload pkX19_exact rfl rfl (Int.natCast_nonneg _) ?_
                refine hd_iload pkX19_exact rfl rfl ?_
                refine hd_ipush (z := 24) pkX19_exact rfl ?_
                have vAo := vA
                have v4o := v4
                refine hd_callV pkX19_exact rfl (q := (KX19_takePlain, yX19_takePlain, 19, 2, 0)) rfl rfl rfl (As := [(0, a), (0, 24)]) (rest := []) (c := 2514) rfl rfl (Nat.le_of_ble_eq_true rfl) (ghc10.cell 0 rfl).1 (ghc10.cell 0 rfl).2.1 (h_X19_takePlain ha ha2 (by decide) (by decide) NA N4 (by rw [vA, v4]; omega) ghc10) (hd_bV (fun hc15 p7 => ?_))
                have ghc15 : Str t19 r19 hc15 := ghc10.only p7.1.1 (by decide)
                have hC := hC.trans (p7.1.mono (by intro n hn; simp only [List.mem_cons, List.not_mem_nil, or_false] at hn ⊢; omega))
                have q4 := p7.1.num (by decide) (n := 24) (by decide) (by first | decide | (simp only [List.mem_cons, List.not_mem_nil, or_false]; omega)) N4
                have v4 := q4.2.1.trans v4
                have N4 := q4.1
                have q5 := p7.1.num (by decide) (n := 25) (by decide) (by first | decide | (simp only [List.mem_cons, List.not_mem_nil, or_false]; omega)) N5
                have v5 := q5.2.1.trans v5
                have N5 := q5.1
                have vA : vl (ga hc15 2515) 140 a = r - f := by rw [p7.2.2.1, vAo, v4o]
                have NA := p7.2.1
                refine hd_aload pkX19_exact rfl rfl (Int.natCast_nonneg _) ?_
                refine hd_ipush (z := 21) pkX19_exact rfl ?_
                refine hd_lpush (z := 1) pkX19_exact rfl ?_
                refine hd_callV pkX19_exact rfl (q := (KX19_small, yX19_small, 19, 2, 0)) rfl rfl rfl (As := [(0, 21), (1, 1)]) (rest := []) (c := 2514) rfl rfl (Nat.le_of_ble_eq_true rfl) (ghc15.cell 0 rfl).1 (ghc15.cell 0 rfl).2.1 (h_X19_small (by decide) (by decide) (by decide) ghc15) (hd_bV (fun hc16 p8 => ?_))
                have ghc16 : Str t19 r19 hc16 := ghc15.only p8.1.1 (by decide)
                have hC := hC.trans (p8.1.mono (by intro n hn; simp only [List.mem_cons, List.not_mem_nil, or_false] at hn ⊢; omega))
                have qA := p8.1.num (by decide) (n := a) ha (by first | decide | (simp only [List.mem_cons, List.not_mem_nil, or_false]; omega)) NA
                have vA := qA.2.1.trans vA
                have NA := qA.1
                have q4 := p8.1.num (by decide) (n := 24) (by decide) (by first | decide | (simp only [List.mem_cons, List.not_mem_nil, or_false]; omega)) N4
                have v4 := q4.2.1.trans v4
                have N4 := q4.1
                have q5 := p8.1.num (by decide) (n := 25) (by decide) (by first | decide | (simp only [List.mem_cons, List.not_mem_nil, or_false]; omega)) N5
                have v5 := q5.2.1.trans v5
                have N5 := q5.1
                have v1 : vl (ga hc16 2515) 140 21 = 1 := p8.2.2.1.1 (by decide)
                have N1 := p8.2.1
                refine hd_aload pkX19_exact rfl rfl (Int.natCast_nonneg _) ?_
                refine hd_ipush (z := 25) pkX19_exact rfl ?_
                refine hd_ipush (z := 21) pkX19_exact rfl ?_
                have v5o := v5
                refine hd_callV pkX19_exact rfl (q := (KX19_addPlain, yX19_addPlain, 19, 2, 0)) rfl rfl rfl (As := [(0, 25), (0, 21)]) (rest := []) (c := 2514) rfl rfl (Nat.le_of_ble_eq_true rfl) (ghc16.cell 0 rfl).1 (ghc16.cell 0 rfl).2.1 (h_X19_addPlain (m := (m : Int)) (by decide) (by decide) (by decide) (by decide) N5 N1 (sz_le N5 (by rw [v5]; omega)) (sz_le N1 (by rw [v1]; omega)) (by omega) ghc16) (hd_bV (fun hc17 p9 => ?_))
                have ghc17 : Str t19 r19 hc17 := ghc16.only p9.1.1 (by decide)
                have hC := hC.trans (p9.1.mono (by intro n hn; simp only [List.mem_cons, List.not_mem_nil, or_false] at hn ⊢; omega))
                have qA := p9.1.num (by decide) (n := a) ha (by first | decide | (simp only [List.mem_cons, List.not_mem_nil, or_false]; omega)) NA
                have vA := qA.2.1.trans vA
                have NA := qA.1
                have q4 := p9.1.num (by decide) (n := 24) (by decide) (by first | decide | (simp only [List.mem_cons, List.not_mem_nil, or_false]; omega)) N4
                have v4 := q4.2.1.trans v4
                have N4 := q4.1
                have v5 : vl (ga hc17 2515) 140 25 = 2 * q + 1 := by rw [p9.2.2.1, v5o, v1]
                have N5 := p9.2.1
                refine cut57 (2 * q + 1) (r - f) hc17 ghc17 ?_ ?_ ?_ ?_ ?_ ?_ ?_ ?_ ?_
                · exact hC
                · exact NA
                · exact vA
                · exact N4
                · exact v4
                · exact N5
                · exact v5
                · exact qb.1 hxy
                · omega
        refine m_sub [(0, (2, ((2514 : Nat) : Int))), (1, (0, a)), (2, (0, v1)), (3, (0, (n1 - n2))), (4, (0, (n1 - n2)))] (List.forall_mem_cons.mpr ⟨rfl, List.forall_mem_cons.mpr ⟨rfl, List.forall_mem_cons.mpr ⟨rfl, List.forall_mem_cons.mpr ⟨rfl, List.forall_mem_cons.mpr ⟨rfl, fun _ h => absurd h List.not_mem_nil⟩⟩⟩⟩⟩) ?_
        refine lp34 ((((n1 - n2)) + 1) + 1).toNat ((n1 - n2)) (f) (0) (va) hc6 ghc6 ?_ ?_ ?_ ?_ ?_ ?_ ?_ ?_ ?_ ?_ ?_ ?_ ?_
        · exact hC
        · exact NA
        · exact vA
        · exact N4
        · exact v4
        · exact N5
        · exact v5
        · omega
        · intro _
          have e : k = n1 - n2 := by omega
          rw [d2, e]
        · omega
        · rw [Int.zero_mul, Int.zero_add]
        · exact sf.2.1
        · omega
      · skip
        refine hd_aload pkX19_exact rfl rfl (Int.natCast_nonneg _) ?_
        refine hd_ipush (z := 24) pkX19_exact rfl ?_
        refine hd_ipush (z := 24) pkX19_exact rfl ?_
        refine hd_callV pkX19_exact rfl (q := (KX19_addPlain, yX19_addPlain, 19, 2, 0)) rfl rfl rfl (As := [(0, 24), (0, 24)]) (rest := []) (c := 2514) rfl rfl (Nat.le_of_ble_eq_true rfl) (g19.cell 0 rfl).1 (g19.cell 0 rfl).2.1 (h_X19_addPlain (m := (m : Int) + 1) (by decide) (by decide) (by decide) (by decide) N4 N4 (sz_le N4 (m := m + 1) (by rw [v4, PW_s]; omega)) (sz_le N4 (m := m + 1) (by rw [v4, PW_s]; omega)) (by omega) g19) (hd_bV (fun hc18 p3 => ?_))
        have ghc18 : Str t19 r19 hc18 := g19.only p3.1.1 (by decide)
        have hC := hC.trans (p3.1.mono (by intro n hn; simp only [List.mem_cons, List.not_mem_nil, or_false] at hn ⊢; omega))
        have qA := p3.1.num (by decide) (n := a) ha (by first | decide | (simp only [List.mem_cons, List.not_mem_nil, or_false]; omega)) NA
        have vA := qA.2.1.trans vA
        have NA := qA.1
        have v4 : vl (ga hc18 2515) 140 24 = f + f := by rw [p3.2.2.1, v4]
        have N4 := p3.2.1
        refine hd_iinc (z := 1) pkX19_exact rfl rfl (by omega) rfl ?_
        change MW _ _ _ _ _ [(4, (0, (k + 1))), (0, (2, ((2514 : Nat) : Int))), (1, (0, a)), (2, (0, v1)), (3, (0, (n1 - n2)))] _ _
        refine hd_goto pkX19_exact rfl ?_
        refine m_sub [(0, (2, ((2514 : Nat) : Int))), (1, (0, a)), (2, (0, v1)), (3, (0, (n1 - n2))), (4, (0, (k + 1)))] (List.forall_mem_cons.mpr ⟨rfl, List.forall_mem_cons.mpr ⟨rfl, List.forall_mem_cons.mpr ⟨rfl, List.forall_mem_cons.mpr ⟨rfl, List.forall_mem_cons.mpr ⟨rfl, fun _ h => absurd h List.not_mem_nil⟩⟩⟩⟩⟩) ?_
        refine ih19  ((k + 1)) (f + f) hc18 ghc18 ?_ ?_ ?_ ?_ ?_ ?_ ?_ ?_
        · exact hC
        · exact NA
        · exact vA
        · exact N4
        · exact v4
        · omega
        · rw [PD_s k (by omega), Int.mul_left_comm, ← d2]
          omega
        · omega
  refine m_sub [(0, (2, ((2514 : Nat) : Int))), (1, (0, a)), (2, (0, v1)), (3, (0, (n1 - n2))), (4, (0, 0))] (List.forall_mem_cons.mpr ⟨rfl, List.forall_mem_cons.mpr ⟨rfl, List.forall_mem_cons.mpr ⟨rfl, List.forall_mem_cons.mpr ⟨rfl, List.forall_mem_cons.mpr ⟨rfl, fun _ h => absurd h List.not_mem_nil⟩⟩⟩⟩⟩) ?_
  refine lp19 ((n1 - n2 - (0)) + 1).toNat (0) (t) hc4 ghc4 ?_ ?_ ?_ ?_ ?_ ?_ ?_ ?_
  · exact hC
  · exact NA
  · exact vA
  · exact N4
  · exact v4
  · omega
  · exact (Int.mul_one t).symm
  · omega
set_option maxRecDepth 20000 in
set_option maxHeartbeats 8000000 in
theorem h_X19_reduce {h : MH} {u d vu vd : Int} {m : Nat} (hu : 0 ≤ u) (hu2 : u < 30) (hd : 0 ≤ d) (hd2 : d < 30) (ud : u ≠ d) (un : u ∉ [21, 23, 24, 25]) (dn : d ∉ [21, 23, 24, 25]) (NU : Num (ga h 2515) 140 u) (vU : vl (ga h 2515) 140 u = vu) (ND : Num (ga h 2515) 140 d) (vD : vl (ga h 2515) 140 d = vd) (su : ga h 2516 u = 0 ↔ vu = 0) (hvd : 0 < vd) (hum : vu < PW m) (hdm : vd < PW m) (hm : (m : Int) + 4 < 140) (hm1 : 1 ≤ m) (g : Str t19 r19 h) : MCal KX19_reduce yX19_reduce 0 0 [(2, ((2514 : Nat) : Int)), (0, u), (0, d)] h (mRV fun h' => Ch 140 2515 2516 [u, d, 21, 23, 24, 25] h h' ∧ Num (ga h' 2515) 140 u ∧ Num (ga h' 2515) 140 d ∧ ga h' 2516 u = ga h 2516 u ∧ ((vu = 0 ∧ vl (ga h' 2515) 140 u = 0 ∧ vl (ga h' 2515) 140 d = 1 ∧ ga h' 2516 d = 1) ∨ (0 < vu ∧ vl (ga h' 2515) 140 u * gi vu vd = vu ∧ vl (ga h' 2515) 140 d * gi vu vd = vd ∧ ga h' 2516 d = ga h 2516 d))) := by
  refine MCal.ofMW (Or.inl rfl) ⟨cp_X19, rfl⟩ (Nat.le_of_ble_eq_true rfl) ?_
  generalize eQ : (mRV fun h' => Ch 140 2515 2516 [u, d, 21, 23, 24, 25] h h' ∧ Num (ga h' 2515) 140 u ∧ Num (ga h' 2515) 140 d ∧ ga h' 2516 u = ga h 2516 u ∧ ((vu = 0 ∧ vl (ga h' 2515) 140 u = 0 ∧ vl (ga h' 2515) 140 d = 1 ∧ ga h' 2516 d = 1) ∨ (0 < vu ∧ vl (ga h' 2515) 140 u * gi vu vd = vu ∧ vl (ga h' 2515) 140 d * gi vu vd = vd ∧ ga h' 2516 d = ga h 2516 d)) : MO → MH → Prop) = Q
  change MW KX19_reduce Q 0 0 (pcA pgX19_reduce 0) [(0, (2, ((2514 : Nat) : Int))), (1, (0, u)), (2, (0, d))] [] h
  refine hd_locI (i := 1) rfl (fun ru => ?_)
  refine hd_locI (i := 2) rfl (fun rd => ?_)
  simp only [List.mem_cons, List.not_mem_nil, or_false, not_or] at un dn
  have hC : Ch 140 2515 2516 [u, d, 21, 23, 24, 25] h h := Ch.refl _ _ _ _ _
  refine hd_aload pkX19_reduce rfl rfl (Int.natCast_nonneg _) ?_
  refine hd_getR (n := 2516) pkX19_reduce rfl (g.cell 0 rfl).1 (g.cell 0 rfl).2.1 (g.ref 1 rfl) ?_
  refine hd_iload pkX19_reduce rfl rfl ?_
  refine hd_iald (n := 30) pkX19_reduce rfl (g.cell 2 rfl) (by omega) (by omega) (fun v1 ev1 rv1 => ?_)
  refine hd_if_ne pkX19_reduce rfl (fun c2 => ?_) (fun c2 => ?_)
  · skip
    refine hd_aload pkX19_reduce rfl rfl (Int.natCast_nonneg _) ?_
    refine hd_iload pkX19_reduce rfl rfl ?_
    refine hd_iload pkX19_reduce rfl rfl ?_
    have vup : 0 < vu := by
      have := vl_nonneg NU
      rw [vU] at this
      omega
    refine hd_callV pkX19_reduce rfl (q := (KX19_divisorOf, yX19_divisorOf, 19, 2, 0)) rfl rfl rfl (As := [(0, u), (0, d)]) (rest := []) (c := 2514) rfl rfl (Nat.le_of_ble_eq_true rfl) (g.cell 0 rfl).1 (g.cell 0 rfl).2.1 (h_X19_divisorOf hu hu2 hd hd2 (by simp only [List.mem_cons, List.not_mem_nil, or_false, not_or]; omega) (by simp only [List.mem_cons, List.not_mem_nil, or_false, not_or]; omega) NU vU ND vD (by omega) (by omega) hum hdm (by omega) g) (hd_bV (fun hc3 p1 => ?_))
    have ghc3 : Str t19 r19 hc3 := g.only p1.1.1 (by decide)
    have hC := hC.trans (p1.1.mono (by intro n hn; simp only [List.mem_cons, List.not_mem_nil, or_false] at hn ⊢; omega))
    have qU := p1.1.num (by decide) (n := u) hu (by first | decide | (simp only [List.mem_cons, List.not_mem_nil, or_false]; omega)) NU
    have vU := qU.2.1.trans vU
    have NU := qU.1
    have qD := p1.1.num (by decide) (n := d) hd (by first | decide | (simp only [List.mem_cons, List.not_mem_nil, or_false]; omega)) ND
    have vD := qD.2.1.trans vD
    have ND := qD.1
    have v3 := p1.2.2
    have N3 := p1.2.1
    have sU : ga hc3 2516 u = ga h 2516 u := qU.2.2.2
    have sD : ga hc3 2516 d = ga h 2516 d := qD.2.2.2
    refine hd_aload pkX19_reduce rfl rfl (Int.natCast_nonneg _) ?_
    refine hd_iload pkX19_reduce rfl rfl ?_
    refine hd_callV pkX19_reduce rfl (q := (KX19_exact, yX19_exact, 19, 1, 0)) rfl rfl rfl (As := [(0, u)]) (rest := []) (c := 2514) rfl rfl (Nat.le_of_ble_eq_true rfl) (ghc3.cell 0 rfl).1 (ghc3.cell 0 rfl).2.1 (h_X19_exact hu hu2 (by simp only [List.mem_cons, List.not_mem_nil, or_false, not_or]; omega) NU vU N3 v3 vup (gi_pos vup vd) (gi_dl vu vd) hum hm hm1 ghc3) (hd_bV (fun hc4 p2 => ?_))
    have ghc4 : Str t19 r19 hc4 := ghc3.only p2.1.1 (by decide)
    have hC := hC.trans (p2.1.mono (by intro n hn; simp only [List.mem_cons, List.not_mem_nil, or_false] at hn ⊢; omega))
    have qD := p2.1.num (by decide) (n := d) hd (by first | decide | (simp only [List.mem_cons, List.not_mem_nil, or_false]; omega)) ND
    have vD := qD.2.1.trans vD
    have ND := qD.1
    have q3 := p2.1.num (by decide) (n := 23) (by decide) (by first | decide | (simp only [List.mem_cons, List.not_mem_nil, or_false]; omega)) N3
    have v3 := q3.2.1.trans v3
    have N3 := q3.1
    have vU := p2.2.2.1
    have NU := p2.2.1
    have sU := p2.2.2.2.trans sU
    have sD := qD.2.2.2.trans sD
    refine hd_aload pkX19_reduce rfl rfl (Int.natCast_nonneg _) ?_
    refine hd_iload pkX19_reduce rfl rfl ?_
    refine hd_callV pkX19_reduce rfl (q := (KX19_exact, yX19_exact, 19, 1, 0)) rfl rfl rfl (As := [(0, d)]) (rest := []) (c := 2514) rfl rfl (Nat.le_of_ble_eq_true rfl) (ghc4.cell 0 rfl).1 (ghc4.cell 0 rfl).2.1 (h_X19_exact hd hd2 (by simp only [List.mem_cons, List.not_mem_nil, or_false, not_or]; omega) ND vD N3 v3 (by omega) (gi_pos vup vd) (gi_dr vu vd) hdm hm hm1 ghc4) (hd_bV (fun hc5 p3 => ?_))
    have ghc5 : Str t19 r19 hc5 := ghc4.only p3.1.1 (by decide)
    have hC := hC.trans (p3.1.mono (by intro n hn; simp only [List.mem_cons, List.not_mem_nil, or_false] at hn ⊢; omega))
    have qU := p3.1.num (by decide) (n := u) hu (by simp only [List.mem_cons, List.not_mem_nil, or_false, not_or]; omega) NU
    have vU : vl (ga hc5 2515) 140 u * gi vu vd = vu := by rw [qU.2.1]; exact vU
    have NU := qU.1
    have vD := p3.2.2.1
    have ND := p3.2.1
    have sU := qU.2.2.2.trans sU
    have sD := p3.2.2.2.trans sD
    refine hd_vret pkX19_reduce rfl ?_
    subst eQ
    exact ⟨rfl, hC, NU, ND, sU, Or.inr ⟨vup, vU, vD, sD⟩⟩
  · skip
    refine hd_aload pkX19_reduce rfl rfl (Int.natCast_nonneg _) ?_
    refine hd_iload pkX19_reduce rfl rfl ?_
    refine hd_lpush (z := 1) pkX19_reduce rfl ?_
    refine hd_callV pkX19_reduce rfl (q := (KX19_small, yX19_small, 19, 2, 0)) rfl rfl rfl (As := [(0, d), (1, 1)]) (rest := []) (c := 2514) rfl rfl (Nat.le_of_ble_eq_true rfl) (g.cell 0 rfl).1 (g.cell 0 rfl).2.1 (h_X19_small hd hd2 (by decide) g) (hd_bV (fun hc6 p0 => ?_))
    have ghc6 : Str t19 r19 hc6 := g.only p0.1.1 (by decide)
    have hC := hC.trans (p0.1.mono (by intro n hn; simp only [List.mem_cons, List.not_mem_nil, or_false] at hn ⊢; omega))
    have qU := p0.1.num (by decide) (n := u) hu (by first | decide | (simp only [List.mem_cons, List.not_mem_nil, or_false]; omega)) NU
    have vU := qU.2.1.trans vU
    have NU := qU.1
    have vD : vl (ga hc6 2515) 140 d = 1 := p0.2.2.1.1 (by decide)
    have ND := p0.2.1
    have sD : ga hc6 2516 d = 1 := p0.2.2.2.2
    have sU : ga hc6 2516 u = ga h 2516 u := qU.2.2.2
    refine hd_vret pkX19_reduce rfl ?_
    subst eQ
    exact ⟨rfl, hC, NU, ND, sU, Or.inl ⟨by omega, by rw [vU]; omega, vD, sD⟩⟩
