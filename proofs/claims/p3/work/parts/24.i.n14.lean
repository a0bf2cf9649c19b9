set_option maxRecDepth 20000 in
set_option maxHeartbeats 8000000 in
theorem h_X14_add {h : MH} {a b x y : Int} {m : Nat} (ha : 0 ≤ a) (ha2 : a < 690) (hb : 0 ≤ b) (hb2 : b < 690) (ab : a ≠ b) (an676 : a ≠ 676) (bn676 : b ≠ 676) (VA : Nv 70 2496 2497 h a x) (VB : Nv 70 2496 2497 h b y) (hx : (x.natAbs : Int) < PW m) (hy : (y.natAbs : Int) < PW m) (hm : (m : Int) + 2 < 70) (g : Str t14 r14 h) : MCal KX14_add yX14_add 0 0 [(2, ((2495 : Nat) : Int)), (0, a), (0, b)] h (mRV fun h' => Ch 70 2496 2497 [a, 676] h h' ∧ Nv 70 2496 2497 h' a (x + y)) := by
  refine MCal.ofMW (Or.inl rfl) ⟨cp_X14, rfl⟩ (Nat.le_of_ble_eq_true rfl) ?_
  generalize eQ : (mRV fun h' => Ch 70 2496 2497 [a, 676] h h' ∧ Nv 70 2496 2497 h' a (x + y) : MO → MH → Prop) = Q
  change MW KX14_add Q 0 0 (pcA pgX14_add 0) [(0, (2, ((2495 : Nat) : Int))), (1, (0, a)), (2, (0, b))] [] h
  refine hd_locI (i := 1) rfl (fun ra => ?_)
  refine hd_locI (i := 2) rfl (fun rb => ?_)
  have hC : Ch 70 2496 2497 [a, 676] h h := Ch.refl _ _ _ _ _
  refine hd_aload pkX14_add rfl rfl (Int.natCast_nonneg _) ?_
  refine hd_getR (n := 2497) pkX14_add rfl (g.cell 0 rfl).1 (g.cell 0 rfl).2.1 (g.ref 1 rfl) ?_
  refine hd_iload pkX14_add rfl rfl ?_
  refine hd_iald (n := 690) pkX14_add rfl (g.cell 2 rfl) (by omega) (by omega) (fun v1 ev1 rv1 => ?_)
  refine hd_if_ne pkX14_add rfl (fun c2 => ?_) (fun c2 => ?_)
  · skip
    refine hd_aload pkX14_add rfl rfl (Int.natCast_nonneg _) ?_
    refine hd_getR (n := 2497) pkX14_add rfl (g.cell 0 rfl).1 (g.cell 0 rfl).2.1 (g.ref 1 rfl) ?_
    refine hd_iload pkX14_add rfl rfl ?_
    refine hd_iald (n := 690) pkX14_add rfl (g.cell 2 rfl) (by omega) (by omega) (fun v3 ev3 rv3 => ?_)
    refine hd_if_ne pkX14_add rfl (fun c4 => ?_) (fun c4 => ?_)
    · skip
      refine hd_aload pkX14_add rfl rfl (Int.natCast_nonneg _) ?_
      refine hd_getR (n := 2497) pkX14_add rfl (g.cell 0 rfl).1 (g.cell 0 rfl).2.1 (g.ref 1 rfl) ?_
      refine hd_iload pkX14_add rfl rfl ?_
      refine hd_iald (n := 690) pkX14_add rfl (g.cell 2 rfl) (by omega) (by omega) (fun v5 ev5 rv5 => ?_)
      refine hd_aload pkX14_add rfl rfl (Int.natCast_nonneg _) ?_
      refine hd_getR (n := 2497) pkX14_add rfl (g.cell 0 rfl).1 (g.cell 0 rfl).2.1 (g.ref 1 rfl) ?_
      refine hd_iload pkX14_add rfl rfl ?_
      refine hd_iald (n := 690) pkX14_add rfl (g.cell 2 rfl) (by omega) (by omega) (fun v6 ev6 rv6 => ?_)
      refine hd_ic_ne pkX14_add rfl (fun c7 => ?_) (fun c7 => ?_)
      · skip
        refine hd_aload pkX14_add rfl rfl (Int.natCast_nonneg _) ?_
        refine hd_iload pkX14_add rfl rfl ?_
        refine hd_iload pkX14_add rfl rfl ?_
        refine hd_callV pkX14_add rfl (q := (KX14_compare, yX14_compare, 14, 2, 0)) rfl rfl rfl (As := [(0, a), (0, b)]) (rest := []) (c := 2495) rfl rfl (Nat.le_of_ble_eq_true rfl) (g.cell 0 rfl).1 (g.cell 0 rfl).2.1 (h_X14_compare ha ha2 hb hb2 VA.1 VB.1 g) (hd_bI (fun w8 hc9 pc => ?_))
        obtain ⟨pc, ehc9⟩ := pc
        replace ehc9 := ehc9.symm
        subst ehc9
        rw [VA.2.1, VB.2.1] at pc
        have nx : x ≠ 0 := by have := VA.2.2; have := sgn3 x; omega
        have ny : y ≠ 0 := by have := VB.2.2; have := sgn3 y; omega
        have ne : x.sign ≠ y.sign := by have := VA.2.2; have := VB.2.2; omega
        refine hd_if_lt pkX14_add rfl (fun c10 => ?_) (fun c10 => ?_)
        · skip
          refine hd_aload pkX14_add rfl rfl (Int.natCast_nonneg _) ?_
          refine hd_iload pkX14_add rfl rfl ?_
          refine hd_ipush (z := 676) pkX14_add rfl ?_
          have VBo := VB
          refine hd_callV pkX14_add rfl (q := (KX14_copy, yX14_copy, 14, 2, 0)) rfl rfl rfl (As := [(0, b), (0, 676)]) (rest := []) (c := 2495) rfl rfl (Nat.le_of_ble_eq_true rfl) (g.cell 0 rfl).1 (g.cell 0 rfl).2.1 (h_X14_copy hb hb2 (by decide) (by decide) VB.1 g) (hd_bV (fun hc11 p4 => ?_))
          have ghc11 : Str t14 r14 hc11 := g.only p4.1.1 (by decide)
          have hC := hC.trans (p4.1.mono (all1 (inC inS)))
          have VA := VA.keep (by decide) p4.1 ha (nm1 an676)
          have V5 := nv_copy VBo p4
          refine hd_aload pkX14_add rfl rfl (Int.natCast_nonneg _) ?_
          refine hd_ipush (z := 676) pkX14_add rfl ?_
          refine hd_iload pkX14_add rfl rfl ?_
          refine hd_callV pkX14_add rfl (q := (KX14_takePlain, yX14_takePlain, 14, 2, 0)) rfl rfl rfl (As := [(0, 676), (0, a)]) (rest := []) (c := 2495) rfl rfl (Nat.le_of_ble_eq_true rfl) (ghc11.cell 0 rfl).1 (ghc11.cell 0 rfl).2.1 (h_X14_takePlain (by decide) (by decide) ha ha2 V5.1 VA.1 (by rw [VA.2.1, V5.2.1]; omega) ghc11) (hd_bV (fun hc12 p5 => ?_))
          have ghc12 : Str t14 r14 hc12 := ghc11.only p5.1.1 (by decide)
          have hC := hC.trans (p5.1.mono (all1 (inC inS)))
          have V5 := nv_take (x := y) (y := x) (p1 := p5.2.1) ny nx ne.symm (by omega) (by rw [p5.2.2.1, V5.2.1, VA.2.1]) (by rw [p5.2.2.2.2, V5.2.2])
          refine hd_aload pkX14_add rfl rfl (Int.natCast_nonneg _) ?_
          refine hd_ipush (z := 676) pkX14_add rfl ?_
          refine hd_iload pkX14_add rfl rfl ?_
          refine hd_callV pkX14_add rfl (q := (KX14_copy, yX14_copy, 14, 2, 0)) rfl rfl rfl (As := [(0, 676), (0, a)]) (rest := []) (c := 2495) rfl rfl (Nat.le_of_ble_eq_true rfl) (ghc12.cell 0 rfl).1 (ghc12.cell 0 rfl).2.1 (h_X14_copy (by decide) (by decide) ha ha2 V5.1 ghc12) (hd_bV (fun hc13 p6 => ?_))
          have ghc13 : Str t14 r14 hc13 := ghc12.only p6.1.1 (by decide)
          have hC := hC.trans (p6.1.mono (all1 inS))
          have VA := nv_copy V5 p6
          have e9 : y + x = x + y := Int.add_comm _ _
          refine hd_vret pkX14_add rfl ?_
          subst eQ
          first
            | exact ⟨rfl, hC, VA⟩
            | exact ⟨rfl, hC, by rw [e9] at VA; exact VA⟩
            | (have y0 : y = 0 := by have := VB.2.2; have := sgn3 y; omega
               exact ⟨rfl, hC, by rw [y0, Int.add_zero]; exact VA⟩)
        · skip
          refine hd_aload pkX14_add rfl rfl (Int.natCast_nonneg _) ?_
          refine hd_iload pkX14_add rfl rfl ?_
          refine hd_iload pkX14_add rfl rfl ?_
          refine hd_callV pkX14_add rfl (q := (KX14_takePlain, yX14_takePlain, 14, 2, 0)) rfl rfl rfl (As := [(0, a), (0, b)]) (rest := []) (c := 2495) rfl rfl (Nat.le_of_ble_eq_true rfl) (g.cell 0 rfl).1 (g.cell 0 rfl).2.1 (h_X14_takePlain ha ha2 hb hb2 VA.1 VB.1 (by rw [VA.2.1, VB.2.1]; omega) g) (hd_bV (fun hc14 p3 => ?_))
          have ghc14 : Str t14 r14 hc14 := g.only p3.1.1 (by decide)
          have hC := hC.trans (p3.1.mono (all1 inS))
          have VA := nv_take (p1 := p3.2.1) nx ny ne (by omega) (by rw [p3.2.2.1, VA.2.1, VB.2.1]) (by rw [p3.2.2.2.2, VA.2.2])
          refine hd_goto pkX14_add rfl ?_
          refine hd_vret pkX14_add rfl ?_
          subst eQ
          first
            | exact ⟨rfl, hC, VA⟩
            | exact ⟨rfl, hC, by rw [e9] at VA; exact VA⟩
            | (have y0 : y = 0 := by have := VB.2.2; have := sgn3 y; omega
               exact ⟨rfl, hC, by rw [y0, Int.add_zero]; exact VA⟩)
      · skip
        refine hd_aload pkX14_add rfl rfl (Int.natCast_nonneg _) ?_
        refine hd_iload pkX14_add rfl rfl ?_
        refine hd_iload pkX14_add rfl rfl ?_
        refine hd_callV pkX14_add rfl (q := (KX14_addPlain, yX14_addPlain, 14, 2, 0)) rfl rfl rfl (As := [(0, a), (0, b)]) (rest := []) (c := 2495) rfl rfl (Nat.le_of_ble_eq_true rfl) (g.cell 0 rfl).1 (g.cell 0 rfl).2.1 (h_X14_addPlain (m := (m : Int)) ha ha2 hb hb2 VA.1 VB.1 (VA.size hx) (VB.size hy) (by omega) g) (hd_bV (fun hc15 p1 => ?_))
        have ghc15 : Str t14 r14 hc15 := g.only p1.1.1 (by decide)
        have hC := hC.trans (p1.1.mono (all1 inS))
        have VA := nv_add (p1 := p1.2.1) VA VB (by have := VA.2.2; have := sgn3 x; omega) (by omega) p1.2.2.1 p1.2.2.2.2
        refine hd_goto pkX14_add rfl ?_
        refine hd_vret pkX14_add rfl ?_
        subst eQ
        first
          | exact ⟨rfl, hC, VA⟩
          | exact ⟨rfl, hC, by rw [e9] at VA; exact VA⟩
          | (have y0 : y = 0 := by have := VB.2.2; have := sgn3 y; omega
             exact ⟨rfl, hC, by rw [y0, Int.add_zero]; exact VA⟩)
    · skip
      refine hd_aload pkX14_add rfl rfl (Int.natCast_nonneg _) ?_
      refine hd_iload pkX14_add rfl rfl ?_
      refine hd_iload pkX14_add rfl rfl ?_
      have x0 : x = 0 := by have := VA.2.2; have := sgn3 x; omega
      refine hd_callV pkX14_add rfl (q := (KX14_copy, yX14_copy, 14, 2, 0)) rfl rfl rfl (As := [(0, b), (0, a)]) (rest := []) (c := 2495) rfl rfl (Nat.le_of_ble_eq_true rfl) (g.cell 0 rfl).1 (g.cell 0 rfl).2.1 (h_X14_copy hb hb2 ha ha2 VB.1 g) (hd_bV (fun hc16 p0 => ?_))
      have ghc16 : Str t14 r14 hc16 := g.only p0.1.1 (by decide)
      have hC := hC.trans (p0.1.mono (all1 inS))
      have VA := nv_copy VB p0
      have e9 : y = x + y := by omega
      refine hd_goto pkX14_add rfl ?_
      refine hd_vret pkX14_add rfl ?_
      subst eQ
      first
        | exact ⟨rfl, hC, VA⟩
        | exact ⟨rfl, hC, by rw [e9] at VA; exact VA⟩
        | (have y0 : y = 0 := by have := VB.2.2; have := sgn3 y; omega
           exact ⟨rfl, hC, by rw [y0, Int.add_zero]; exact VA⟩)
  · skip
    refine hd_vret pkX14_add rfl ?_
    subst eQ
    first
      | exact ⟨rfl, hC, VA⟩
      | exact ⟨rfl, hC, by rw [e9] at VA; exact VA⟩
      | (have y0 : y = 0 := by have := VB.2.2; have := sgn3 y; omega
         exact ⟨rfl, hC, by rw [y0, Int.add_zero]; exact VA⟩)
set_option maxRecDepth 20000 in
set_option maxHeartbeats 8000000 in
theorem h_X14_fraction {h : MH} {u d p q : Int} (hu : 0 ≤ u) (hu2 : u < 690) (hd : 0 ≤ d) (hd2 : d < 690) (ud : u ≠ d) (un : u ∉ [672, 673, 674, 675, 676]) (dn : d ∉ [672, 673, 674, 675, 676]) (hq : 0 < q) (hp : -9223372036854775807 ≤ p) (g : Str t14 r14 h) : MCal KX14_fraction yX14_fraction 0 0 [(2, ((2495 : Nat) : Int)), (0, u), (0, d), (1, p), (1, q)] h (mRV fun h' => Ch 70 2496 2497 [u, d, 672, 674, 675, 676] h h' ∧ Hr 70 2496 2497 h' u d (Rat.divInt p q)) := by
  refine MCal.ofMW (Or.inl rfl) ⟨cp_X14, rfl⟩ (Nat.le_of_ble_eq_true rfl) ?_
  generalize eQ : (mRV fun h' => Ch 70 2496 2497 [u, d, 672, 674, 675, 676] h h' ∧ Hr 70 2496 2497 h' u d (Rat.divInt p q) : MO → MH → Prop) = Q
  change MW KX14_fraction Q 0 0 (pcA pgX14_fraction 0) [(0, (2, ((2495 : Nat) : Int))), (1, (0, u)), (2, (0, d)), (3, (1, p)), (5, (1, q))] [] h
  refine hd_locI (i := 1) rfl (fun ru => ?_)
  refine hd_locI (i := 2) rfl (fun rd => ?_)
  refine hd_locL (i := 3) rfl (fun rp => ?_)
  refine hd_locL (i := 5) rfl (fun rq => ?_)
  simp only [List.mem_cons, List.not_mem_nil, or_false, not_or] at un dn
  obtain ⟨un672, un673, un674, un675, un676⟩ := un
  obtain ⟨dn672, dn673, dn674, dn675, dn676⟩ := dn
  have hC : Ch 70 2496 2497 [u, d, 672, 674, 675, 676] h h := Ch.refl _ _ _ _ _
  refine hd_aload pkX14_fraction rfl rfl (Int.natCast_nonneg _) ?_
  refine hd_iload pkX14_fraction rfl rfl ?_
  refine hd_lload pkX14_fraction rfl rfl ?_
  refine hd_callV pkX14_fraction rfl (q := (KX14_small, yX14_small, 14, 2, 0)) rfl rfl rfl (As := [(0, u), (1, p)]) (rest := []) (c := 2495) rfl rfl (Nat.le_of_ble_eq_true rfl) (g.cell 0 rfl).1 (g.cell 0 rfl).2.1 (h_X14_small hu hu2 (by omega) g) (hd_bV (fun hc1 p0 => ?_))
  have ghc1 : Str t14 r14 hc1 := g.only p0.1.1 (by decide)
  have hC := hC.trans (p0.1.mono (all1 inS))
  have VU := nv_small p0
  refine hd_aload pkX14_fraction rfl rfl (Int.natCast_nonneg _) ?_
  refine hd_iload pkX14_fraction rfl rfl ?_
  refine hd_lload pkX14_fraction rfl rfl ?_
  refine hd_callV pkX14_fraction rfl (q := (KX14_small, yX14_small, 14, 2, 0)) rfl rfl rfl (As := [(0, d), (1, q)]) (rest := []) (c := 2495) rfl rfl (Nat.le_of_ble_eq_true rfl) (ghc1.cell 0 rfl).1 (ghc1.cell 0 rfl).2.1 (h_X14_small hd hd2 (by omega) ghc1) (hd_bV (fun hc2 p1 => ?_))
  have ghc2 : Str t14 r14 hc2 := ghc1.only p1.1.1 (by decide)
  have hC := hC.trans (p1.1.mono (all1 (inC inS)))
  have VU := VU.keep (by decide) p1.1 hu (nm1 ud)
  have VD := nv_small p1
  refine hd_aload pkX14_fraction rfl rfl (Int.natCast_nonneg _) ?_
  refine hd_iload pkX14_fraction rfl rfl ?_
  refine hd_iload pkX14_fraction rfl rfl ?_
  have P3 : PW 3 = 4722366482869645213696 := by decide +kernel
  have s1 : (p.natAbs : Int) < PW 3 := by omega
  have s2 : (q.natAbs : Int) < PW 3 := by omega
  refine hd_callV pkX14_fraction rfl (q := (KX14_reduce, yX14_reduce, 14, 2, 0)) rfl rfl rfl (As := [(0, u), (0, d)]) (rest := []) (c := 2495) rfl rfl (Nat.le_of_ble_eq_true rfl) (ghc2.cell 0 rfl).1 (ghc2.cell 0 rfl).2.1 (h_X14_reduce (m := 3) hu hu2 hd hd2 ud (nmc un672 (nmc un674 (nmc un675 (nm1 un676)))) (nmc dn672 (nmc dn674 (nmc dn675 (nm1 dn676)))) VU.1 VU.2.1 VD.1 (nv_vl VD hq) (nv_su VU) hq s1 (PW_q hq s2) (by omega) (by omega) ghc2) (hd_bV (fun hc3 pr => ?_))
  have ghc3 : Str t14 r14 hc3 := ghc2.only pr.1.1 (by decide)
  have hC := hC.trans (pr.1.mono (allc inS (allc (inC inS) (allc (inC (inC inS)) (allc (inC (inC (inC inS))) (allc (inC (inC (inC (inC inS)))) (all1 (inC (inC (inC (inC (inC inS))))))))))))
  have HR := pr_reduce ⟨VU, VD, hq⟩ pr.2
  refine hd_vret pkX14_fraction rfl ?_
  subst eQ
  exact ⟨rfl, hC, HR⟩
set_option maxRecDepth 20000 in
set_option maxHeartbeats 8000000 in
theorem h_X14_addFraction {h : MH} {u d v w p1 q1 p2 q2 : Int} {m1 m2 : Nat} (hu : 0 ≤ u) (hu2 : u < 690) (hd : 0 ≤ d) (hd2 : d < 690) (hmu : 0 ≤ v) (hmu2 : v < 690) (hmd : 0 ≤ w) (hmd2 : w < 690) (ud : u ≠ d) (un : u ∉ [672, 673, 674, 675, 676]) (dn : d ∉ [672, 673, 674, 675, 676]) (vn : v ∉ [672, 673, 674, 675, 676]) (wn : w ∉ [672, 673, 674, 675, 676]) (P1 : Pr 70 2496 2497 h u d p1 q1) (P2 : Pr 70 2496 2497 h v w p2 q2) (b1 : (p1.natAbs : Int) < PW m1) (b2 : (q1.natAbs : Int) < PW m1) (b3 : (p2.natAbs : Int) < PW m2) (b4 : (q2.natAbs : Int) < PW m2) (hm : (m1 + m2 : Int) + 5 < 70) (g : Str t14 r14 h) : MCal KX14_addFraction yX14_addFraction 0 0 [(2, ((2495 : Nat) : Int)), (0, u), (0, d), (0, v), (0, w)] h (mRV fun h' => Ch 70 2496 2497 [u, d, 672, 673, 674, 675, 676] h h' ∧ Hr 70 2496 2497 h' u d (Rat.divInt (p1 * q2 + p2 * q1) (q1 * q2))) := by
  refine MCal.ofMW (Or.inl rfl) ⟨cp_X14, rfl⟩ (Nat.le_of_ble_eq_true rfl) ?_
  generalize eQ : (mRV fun h' => Ch 70 2496 2497 [u, d, 672, 673, 674, 675, 676] h h' ∧ Hr 70 2496 2497 h' u d (Rat.divInt (p1 * q2 + p2 * q1) (q1 * q2)) : MO → MH → Prop) = Q
  change MW KX14_addFraction Q 0 0 (pcA pgX14_addFraction 0) [(0, (2, ((2495 : Nat) : Int))), (1, (0, u)), (2, (0, d)), (3, (0, v)), (4, (0, w))] [] h
  refine hd_locI (i := 1) rfl (fun ru => ?_)
  refine hd_locI (i := 2) rfl (fun rd => ?_)
  refine hd_locI (i := 3) rfl (fun rv => ?_)
  refine hd_locI (i := 4) rfl (fun rw => ?_)
  have hm9 : (m1 : Int) + m2 < 70 := by omega
  have hm8 : (m2 : Int) + m1 < 70 := by omega
  have hm7 : (m1 + m2 + 1 : Int) + 4 < 70 := by omega
  have hm6 : ((m1 + m2 : Nat) : Int) + 2 < 70 := by omega
  simp only [List.mem_cons, List.not_mem_nil, or_false, not_or] at un dn vn wn
  obtain ⟨un672, un673, un674, un675, un676⟩ := un
  obtain ⟨dn672, dn673, dn674, dn675, dn676⟩ := dn
  obtain ⟨vn672, vn673, vn674, vn675, vn676⟩ := vn
  obtain ⟨wn672, wn673, wn674, wn675, wn676⟩ := wn
  obtain ⟨VU, VD, hq1⟩ := P1
  obtain ⟨VM, VN, hq2⟩ := P2
  have hC : Ch 70 2496 2497 [u, d, 672, 673, 674, 675, 676] h h := Ch.refl _ _ _ _ _
  refine hd_aload pkX14_addFraction rfl rfl (Int.natCast_nonneg _) ?_
  refine hd_iload pkX14_addFraction rfl rfl ?_
  refine hd_iload pkX14_addFraction rfl rfl ?_
  refine hd_ipush (z := 672) pkX14_addFraction rfl ?_
  have VUo := VU
  have VNo := VN
  refine hd_callV pkX14_addFraction rfl (q := (KX14_product, yX14_product, 14, 3, 0)) rfl rfl rfl (As := [(0, u), (0, w), (0, 672)]) (rest := []) (c := 2495) rfl rfl (Nat.le_of_ble_eq_true rfl) (g.cell 0 rfl).1 (g.cell 0 rfl).2.1 (h_X14_product hu hu2 hmd hmd2 (by decide) (by decide) un672 wn672 VU.1 VN.1 (nv_szs VU VN b1 b4 hm9) VU.sg VN.sg g) (hd_bV (fun hc1 p0 => ?_))
  have ghc1 : Str t14 r14 hc1 := g.only p0.1.1 (by decide)
  have hC := hC.trans (p0.1.mono (all1 (inC (inC inS))))
  have VU := VU.keep (by decide) p0.1 hu (nm1 un672)
  have VD := VD.keep (by decide) p0.1 hd (nm1 dn672)
  have VM := VM.keep (by decide) p0.1 hmu (nm1 vn672)
  have VN := VN.keep (by decide) p0.1 hmd (nm1 wn672)
  have V1 := nv_product VUo VNo p0
  refine hd_aload pkX14_addFraction rfl rfl (Int.natCast_nonneg _) ?_
  refine hd_iload pkX14_addFraction rfl rfl ?_
  refine hd_iload pkX14_addFraction rfl rfl ?_
  refine hd_ipush (z := 673) pkX14_addFraction rfl ?_
  have VMo := VM
  have VDo := VD
  refine hd_callV pkX14_addFraction rfl (q := (KX14_product, yX14_product, 14, 3, 0)) rfl rfl rfl (As := [(0, v), (0, d), (0, 673)]) (rest := []) (c := 2495) rfl rfl (Nat.le_of_ble_eq_true rfl) (ghc1.cell 0 rfl).1 (ghc1.cell 0 rfl).2.1 (h_X14_product hmu hmu2 hd hd2 (by decide) (by decide) vn673 dn673 VM.1 VD.1 (nv_szs VM VD b3 b2 hm8) VM.sg VD.sg ghc1) (hd_bV (fun hc2 p1 => ?_))
  have ghc2 : Str t14 r14 hc2 := ghc1.only p1.1.1 (by decide)
  have hC := hC.trans (p1.1.mono (all1 (inC (inC (inC inS)))))
  have VU := VU.keep (by decide) p1.1 hu (nm1 un673)
  have VD := VD.keep (by decide) p1.1 hd (nm1 dn673)
  have VM := VM.keep (by decide) p1.1 hmu (nm1 vn673)
  have VN := VN.keep (by decide) p1.1 hmd (nm1 wn673)
  have V1 := V1.keep (by decide) p1.1 (by decide) (nm1 (by decide))
  have V2 := nv_product VMo VDo p1
  refine hd_aload pkX14_addFraction rfl rfl (Int.natCast_nonneg _) ?_
  refine hd_ipush (z := 672) pkX14_addFraction rfl ?_
  refine hd_ipush (z := 673) pkX14_addFraction rfl ?_
  have s0 := PW_mul b3 b2
  rw [Nat.add_comm] at s0
  refine hd_callV pkX14_addFraction rfl (q := (KX14_add, yX14_add, 14, 2, 0)) rfl rfl rfl (As := [(0, 672), (0, 673)]) (rest := []) (c := 2495) rfl rfl (Nat.le_of_ble_eq_true rfl) (ghc2.cell 0 rfl).1 (ghc2.cell 0 rfl).2.1 (h_X14_add (m := m1 + m2) (by decide) (by decide) (by decide) (by decide) (by decide) (by decide) (by decide) V1 V2 (PW_mul b1 b4) s0 hm6 ghc2) (hd_bV (fun hc3 pa => ?_))
  have ghc3 : Str t14 r14 hc3 := ghc2.only pa.1.1 (by decide)
  have hC := hC.trans (pa.1.mono (allc (inC (inC inS)) (all1 (inC (inC (inC (inC (inC (inC inS)))))))))
  have VU := VU.keep (by decide) pa.1 hu (nmc un672 (nm1 un676))
  have VD := VD.keep (by decide) pa.1 hd (nmc dn672 (nm1 dn676))
  have VM := VM.keep (by decide) pa.1 hmu (nmc vn672 (nm1 vn676))
  have VN := VN.keep (by decide) pa.1 hmd (nmc wn672 (nm1 wn676))
  have V1 := pa.2
  refine hd_aload pkX14_addFraction rfl rfl (Int.natCast_nonneg _) ?_
  refine hd_iload pkX14_addFraction rfl rfl ?_
  refine hd_iload pkX14_addFraction rfl rfl ?_
  refine hd_ipush (z := 673) pkX14_addFraction rfl ?_
  have VDo := VD
  have VNo := VN
  refine hd_callV pkX14_addFraction rfl (q := (KX14_product, yX14_product, 14, 3, 0)) rfl rfl rfl (As := [(0, d), (0, w), (0, 673)]) (rest := []) (c := 2495) rfl rfl (Nat.le_of_ble_eq_true rfl) (ghc3.cell 0 rfl).1 (ghc3.cell 0 rfl).2.1 (h_X14_product hd hd2 hmd hmd2 (by decide) (by decide) dn673 wn673 VD.1 VN.1 (nv_szs VD VN b2 b4 hm9) VD.sg VN.sg ghc3) (hd_bV (fun hc4 p3 => ?_))
  have ghc4 : Str t14 r14 hc4 := ghc3.only p3.1.1 (by decide)
  have hC := hC.trans (p3.1.mono (all1 (inC (inC (inC inS)))))
  have VU := VU.keep (by decide) p3.1 hu (nm1 un673)
  have VD := VD.keep (by decide) p3.1 hd (nm1 dn673)
  have V1 := V1.keep (by decide) p3.1 (by decide) (nm1 (by decide))
  have V2 := nv_product VDo VNo p3
  refine hd_aload pkX14_addFraction rfl rfl (Int.natCast_nonneg _) ?_
  refine hd_ipush (z := 672) pkX14_addFraction rfl ?_
  refine hd_iload pkX14_addFraction rfl rfl ?_
  refine hd_callV pkX14_addFraction rfl (q := (KX14_copy, yX14_copy, 14, 2, 0)) rfl rfl rfl (As := [(0, 672), (0, u)]) (rest := []) (c := 2495) rfl rfl (Nat.le_of_ble_eq_true rfl) (ghc4.cell 0 rfl).1 (ghc4.cell 0 rfl).2.1 (h_X14_copy (by decide) (by decide) hu hu2 V1.1 ghc4) (hd_bV (fun hc5 p4 => ?_))
  have ghc5 : Str t14 r14 hc5 := ghc4.only p4.1.1 (by decide)
  have hC := hC.trans (p4.1.mono (all1 inS))
  have VD := VD.keep (by decide) p4.1 hd (nm1 (Ne.symm ud))
  have V2 := V2.keep (by decide) p4.1 (by decide) (nm1 (Ne.symm un673))
  have VU := nv_copy V1 p4
  refine hd_aload pkX14_addFraction rfl rfl (Int.natCast_nonneg _) ?_
  refine hd_ipush (z := 673) pkX14_addFraction rfl ?_
  refine hd_iload pkX14_addFraction rfl rfl ?_
  refine hd_callV pkX14_addFraction rfl (q := (KX14_copy, yX14_copy, 14, 2, 0)) rfl rfl rfl (As := [(0, 673), (0, d)]) (rest := []) (c := 2495) rfl rfl (Nat.le_of_ble_eq_true rfl) (ghc5.cell 0 rfl).1 (ghc5.cell 0 rfl).2.1 (h_X14_copy (by decide) (by decide) hd hd2 V2.1 ghc5) (hd_bV (fun hc6 p5 => ?_))
  have ghc6 : Str t14 r14 hc6 := ghc5.only p5.1.1 (by decide)
  have hC := hC.trans (p5.1.mono (all1 (inC inS)))
  have VU := VU.keep (by decide) p5.1 hu (nm1 ud)
  have VD := nv_copy V2 p5
  refine hd_aload pkX14_addFraction rfl rfl (Int.natCast_nonneg _) ?_
  refine hd_iload pkX14_addFraction rfl rfl ?_
  refine hd_iload pkX14_addFraction rfl rfl ?_
  have hq : 0 < q1 * q2 := Int.mul_pos hq1 hq2
  have s1 := PW_sum (PW_mul b1 b4) s0
  have s2 := PW_up (n := m1 + m2 + 1) (PW_mul b2 b4) (Nat.le_succ _)
  refine hd_callV pkX14_addFraction rfl (q := (KX14_reduce, yX14_reduce, 14, 2, 0)) rfl rfl rfl (As := [(0, u), (0, d)]) (rest := []) (c := 2495) rfl rfl (Nat.le_of_ble_eq_true rfl) (ghc6.cell 0 rfl).1 (ghc6.cell 0 rfl).2.1 (h_X14_reduce (m := m1 + m2 + 1) hu hu2 hd hd2 ud (nmc un672 (nmc un674 (nmc un675 (nm1 un676)))) (nmc dn672 (nmc dn674 (nmc dn675 (nm1 dn676)))) VU.1 VU.2.1 VD.1 (nv_vl VD hq) (nv_su VU) hq s1 (PW_q hq s2) (by omega) (by omega) ghc6) (hd_bV (fun hc7 pr => ?_))
  have ghc7 : Str t14 r14 hc7 := ghc6.only pr.1.1 (by decide)
  have hC := hC.trans (pr.1.mono (allc inS (allc (inC inS) (allc (inC (inC inS)) (allc (inC (inC (inC (inC inS)))) (allc (inC (inC (inC (inC (inC inS))))) (all1 (inC (inC (inC (inC (inC (inC inS)))))))))))))
  have HR := pr_reduce ⟨VU, VD, hq⟩ pr.2
  refine hd_vret pkX14_addFraction rfl ?_
  subst eQ
  exact ⟨rfl, hC, HR⟩
set_option maxRecDepth 20000 in
set_option maxHeartbeats 8000000 in
theorem h_X14_timesFraction {h : MH} {u d v w p1 q1 p2 q2 : Int} {m1 m2 : Nat} (hu : 0 ≤ u) (hu2 : u < 690) (hd : 0 ≤ d) (hd2 : d < 690) (hmu : 0 ≤ v) (hmu2 : v < 690) (hmd : 0 ≤ w) (hmd2 : w < 690) (ud : u ≠ d) (un : u ∉ [672, 673, 674, 675, 676]) (dn : d ∉ [672, 673, 674, 675, 676]) (vn : v ∉ [672, 673, 674, 675, 676]) (wn : w ∉ [672, 673, 674, 675, 676]) (P1 : Pr 70 2496 2497 h u d p1 q1) (P2 : Pr 70 2496 2497 h v w p2 q2) (b1 : (p1.natAbs : Int) < PW m1) (b2 : (q1.natAbs : Int) < PW m1) (b3 : (p2.natAbs : Int) < PW m2) (b4 : (q2.natAbs : Int) < PW m2) (hm : (m1 + m2 : Int) + 5 < 70) (g : Str t14 r14 h) : MCal KX14_timesFraction yX14_timesFraction 0 0 [(2, ((2495 : Nat) : Int)), (0, u), (0, d), (0, v), (0, w)] h (mRV fun h' => Ch 70 2496 2497 [u, d, 672, 673, 674, 675, 676] h h' ∧ Hr 70 2496 2497 h' u d (Rat.divInt (p1 * p2) (q1 * q2))) := by
  refine MCal.ofMW (Or.inl rfl) ⟨cp_X14, rfl⟩ (Nat.le_of_ble_eq_true rfl) ?_
  generalize eQ : (mRV fun h' => Ch 70 2496 2497 [u, d, 672, 673, 674, 675, 676] h h' ∧ Hr 70 2496 2497 h' u d (Rat.divInt (p1 * p2) (q1 * q2)) : MO → MH → Prop) = Q
  change MW KX14_timesFraction Q 0 0 (pcA pgX14_timesFraction 0) [(0, (2, ((2495 : Nat) : Int))), (1, (0, u)), (2, (0, d)), (3, (0, v)), (4, (0, w))] [] h
  refine hd_locI (i := 1) rfl (fun ru => ?_)
  refine hd_locI (i := 2) rfl (fun rd => ?_)
  refine hd_locI (i := 3) rfl (fun rv => ?_)
  refine hd_locI (i := 4) rfl (fun rw => ?_)
  have hm9 : (m1 : Int) + m2 < 70 := by omega
  have hm8 : (m2 : Int) + m1 < 70 := by omega
  have hm7 : (m1 + m2 + 1 : Int) + 4 < 70 := by omega
  have hm6 : ((m1 + m2 : Nat) : Int) + 2 < 70 := by omega
  simp only [List.mem_cons, List.not_mem_nil, or_false, not_or] at un dn vn wn
  obtain ⟨un672, un673, un674, un675, un676⟩ := un
  obtain ⟨dn672, dn673, dn674, dn675, dn676⟩ := dn
  obtain ⟨vn672, vn673, vn674, vn675, vn676⟩ := vn
  obtain ⟨wn672, wn673, wn674, wn675, wn676⟩ := wn
  obtain ⟨VU, VD, hq1⟩ := P1
  obtain ⟨VM, VN, hq2⟩ := P2
  have hC : Ch 70 2496 2497 [u, d, 672, 673, 674, 675, 676] h h := Ch.refl _ _ _ _ _
  refine hd_aload pkX14_timesFraction rfl rfl (Int.natCast_nonneg _) ?_
  refine hd_iload pkX14_timesFraction rfl rfl ?_
  refine hd_iload pkX14_timesFraction rfl rfl ?_
  refine hd_ipush (z := 672) pkX14_timesFraction rfl ?_
  have VUo := VU
  have VMo := VM
  refine hd_callV pkX14_timesFraction rfl (q := (KX14_product, yX14_product, 14, 3, 0)) rfl rfl rfl (As := [(0, u), (0, v), (0, 672)]) (rest := []) (c := 2495) rfl rfl (Nat.le_of_ble_eq_true rfl) (g.cell 0 rfl).1 (g.cell 0 rfl).2.1 (h_X14_product hu hu2 hmu hmu2 (by decide) (by decide) un672 vn672 VU.1 VM.1 (nv_szs VU VM b1 b3 hm9) VU.sg VM.sg g) (hd_bV (fun hc1 p0 => ?_))
  have ghc1 : Str t14 r14 hc1 := g.only p0.1.1 (by decide)
  have hC := hC.trans (p0.1.mono (all1 (inC (inC inS))))
  have VU := VU.keep (by decide) p0.1 hu (nm1 un672)
  have VD := VD.keep (by decide) p0.1 hd (nm1 dn672)
  have VM := VM.keep (by decide) p0.1 hmu (nm1 vn672)
  have VN := VN.keep (by decide) p0.1 hmd (nm1 wn672)
  have V1 := nv_product VUo VMo p0
  refine hd_aload pkX14_timesFraction rfl rfl (Int.natCast_nonneg _) ?_
  refine hd_iload pkX14_timesFraction rfl rfl ?_
  refine hd_iload pkX14_timesFraction rfl rfl ?_
  refine hd_ipush (z := 673) pkX14_timesFraction rfl ?_
  have VDo := VD
  have VNo := VN
  refine hd_callV pkX14_timesFraction rfl (q := (KX14_product, yX14_product, 14, 3, 0)) rfl rfl rfl (As := [(0, d), (0, w), (0, 673)]) (rest := []) (c := 2495) rfl rfl (Nat.le_of_ble_eq_true rfl) (ghc1.cell 0 rfl).1 (ghc1.cell 0 rfl).2.1 (h_X14_product hd hd2 hmd hmd2 (by decide) (by decide) dn673 wn673 VD.1 VN.1 (nv_szs VD VN b2 b4 hm9) VD.sg VN.sg ghc1) (hd_bV (fun hc2 p1 => ?_))
  have ghc2 : Str t14 r14 hc2 := ghc1.only p1.1.1 (by decide)
  have hC := hC.trans (p1.1.mono (all1 (inC (inC (inC inS)))))
  have V1 := V1.keep (by decide) p1.1 (by decide) (nm1 (by decide))
  have V2 := nv_product VDo VNo p1
  refine hd_aload pkX14_timesFraction rfl rfl (Int.natCast_nonneg _) ?_
  refine hd_ipush (z := 672) pkX14_timesFraction rfl ?_
  refine hd_iload pkX14_timesFraction rfl rfl ?_
  refine hd_callV pkX14_timesFraction rfl (q := (KX14_copy, yX14_copy, 14, 2, 0)) rfl rfl rfl (As := [(0, 672), (0, u)]) (rest := []) (c := 2495) rfl rfl (Nat.le_of_ble_eq_true rfl) (ghc2.cell 0 rfl).1 (ghc2.cell 0 rfl).2.1 (h_X14_copy (by decide) (by decide) hu hu2 V1.1 ghc2) (hd_bV (fun hc3 p4 => ?_))
  have ghc3 : Str t14 r14 hc3 := ghc2.only p4.1.1 (by decide)
  have hC := hC.trans (p4.1.mono (all1 inS))
  have V2 := V2.keep (by decide) p4.1 (by decide) (nm1 (Ne.symm un673))
  have VU := nv_copy V1 p4
  refine hd_aload pkX14_timesFraction rfl rfl (Int.natCast_nonneg _) ?_
  refine hd_ipush (z := 673) pkX14_timesFraction rfl ?_
  refine hd_iload pkX14_timesFraction rfl rfl ?_
  refine hd_callV pkX14_timesFraction rfl (q := (KX14_copy, yX14_copy, 14, 2, 0)) rfl rfl rfl (As := [(0, 673), (0, d)]) (rest := []) (c := 2495) rfl rfl (Nat.le_of_ble_eq_true rfl) (ghc3.cell 0 rfl).1 (ghc3.cell 0 rfl).2.1 (h_X14_copy (by decide) (by decide) hd hd2 V2.1 ghc3) (hd_bV (fun hc4 p5 => ?_))
  have ghc4 : Str t14 r14 hc4 := ghc3.only p5.1.1 (by decide)
  have hC := hC.trans (p5.1.mono (all1 (inC inS)))
  have VU := VU.keep (by decide) p5.1 hu (nm1 ud)
  have VD := nv_copy V2 p5
  refine hd_aload pkX14_timesFraction rfl rfl (Int.natCast_nonneg _) ?_
  refine hd_iload pkX14_timesFraction rfl rfl ?_
  refine hd_iload pkX14_timesFraction rfl rfl ?_
  have hq : 0 < q1 * q2 := Int.mul_pos hq1 hq2
  have s1 := PW_mul b1 b3
  have s2 := PW_mul b2 b4
  have m0 : 1 ≤ m1 + m2 := by
    by_cases w9 : 1 ≤ m1 + m2
    · exact w9
    · have e : m1 = 0 := by omega
      rw [e] at b2
      have : PW 0 = 1 := rfl
      omega
  refine hd_callV pkX14_timesFraction rfl (q := (KX14_reduce, yX14_reduce, 14, 2, 0)) rfl rfl rfl (As := [(0, u), (0, d)]) (rest := []) (c := 2495) rfl rfl (Nat.le_of_ble_eq_true rfl) (ghc4.cell 0 rfl).1 (ghc4.cell 0 rfl).2.1 (h_X14_reduce (m := m1 + m2) hu hu2 hd hd2 ud (nmc un672 (nmc un674 (nmc un675 (nm1 un676)))) (nmc dn672 (nmc dn674 (nmc dn675 (nm1 dn676)))) VU.1 VU.2.1 VD.1 (nv_vl VD hq) (nv_su VU) hq s1 (PW_q hq s2) (by omega) (by omega) ghc4) (hd_bV (fun hc5 pr => ?_))
  have ghc5 : Str t14 r14 hc5 := ghc4.only pr.1.1 (by decide)
  have hC := hC.trans (pr.1.mono (allc inS (allc (inC inS) (allc (inC (inC inS)) (allc (inC (inC (inC (inC inS)))) (allc (inC (inC (inC (inC (inC inS))))) (all1 (inC (inC (inC (inC (inC (inC inS)))))))))))))
  have HR := pr_reduce ⟨VU, VD, hq⟩ pr.2
  refine hd_vret pkX14_timesFraction rfl ?_
  subst eQ
  exact ⟨rfl, hC, HR⟩
