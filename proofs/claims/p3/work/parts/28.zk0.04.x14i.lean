set_option maxRecDepth 20000 in
set_option maxHeartbeats 8000000 in
theorem h_X14_add {h : MH} {a b x y : Int} {m : Nat} (ha : 0 ≤ a) (ha2 : a < 690) (hb : 0 ≤ b) (hb2 : b < 690) (ab : a ≠ b) (an676 : a ≠ 676) (bn676 : b ≠ 676) (VA : Nv 70 2496 2497 h a x) (VB : Nv 70 2496 2497 h b y) (hx : (x.natAbs : Int) < PW m) (hy : (y.natAbs : Int) < PW m) (hm : (m : Int) + 2 < 70) (g : Str t14 r14 h) : MCal KX14_add yX14_add 0 0 [(2, ((2495 : Nat) : Int)), (0, a), (0, b)] h (mRV fun h' => Ch 70 2496 2497 [a, 676] h h' ∧ Nv 70 2496 2497 h' a (x + y)) := by
  refine MCal.ofMW (Or.inl rfl) ⟨cp_X14, rfl⟩ (Nat.le_of_ble_eq_true rfl) ?_
  generalize eQ : (mRV fun h' => Ch 70 2496 2497 [a, 676] h h' ∧ Nv 70 2496 2497 h' a (x + y) : MO → MH → Prop) = Q
  change MW KX14_add Q 0 0 (pcA pgX14_add 0) [(0, (2, ((2495 : Nat) : Int))), (1, (0, a)), (2, (0, b))] [] h
  refine hd_locI (i := 1) rfl (fun ra => ?_)
  refine hd_locI (i := 2) rfl (fun rb => ?_)
  have hC : Ch 70 2496 2497 [a, 676] h h := Ch.refl _ _ _ _ _
  refine hd_aload pkX14_add rfl rfl (Int.natCast_nonneg _) ?_
  refine hd_getR (n := 2497) pkX14_add rfl (g.cell 0 rfl).1 (g.cell 0 rfl).2.1 (g.ref 1 rfl) ?_
  refine hd_iload pkX14_add rfl rfl ?_
  refine hd_iald (n := 690) pkX14_add rfl (g.cell 2 rfl) (by omega) (by omega) (fun v1 ev1 rv1 => ?_)
  refine hd_if_ne pkX14_add rfl (fun c2 => ?_) (fun c2 => ?_)
  · skip
    refine hd_aload pkX14_add rfl rfl (Int.natCast_nonneg _) ?_
    refine hd_getR (n := 2497) pkX14_add rfl (g.cell 0 rfl).1 (g.cell 0 rfl).2.1 (g.ref 1 rfl) ?_
    refine hd_iload pkX14_add rfl rfl ?_
    refine hd_iald (n := 690) pkX14_add rfl (g.cell 2 rfl) (by omega) (by omega) (fun v3 ev3 rv3 => ?_)
    refine hd_if_ne pkX14_add rfl (fun c4 => ?_) (fun c4 => ?_)
    · skip
      refine hd_aload pkX14_add rfl rfl (Int.natCast_nonneg _) ?_
      refine hd_getR (n := 2497) pkX14_add rfl (g.cell 0 rfl).1 (g.cell 0 rfl).2.1 (g.ref 1 rfl) ?_
      refine hd_iload pkX14_add rfl rfl ?_
      refine hd_iald (n := 690) pkX14_add rfl (g.cell 2 rfl) (by omega) (by omega) (fun v5 ev5 rv5 => ?_)
      refine hd_aload pkX14_add rfl rfl (Int.natCast_nonneg _) ?_
      refine hd_getR (n := 2497) pkX14_add rfl (g.cell 0 rfl).1 (g.cell 0 rfl).2.1 (g.ref 1 rfl) ?_
      refine hd_iload pkX14_add rfl rfl ?_
      refine hd_iald (n := 690) pkX14_add rfl (g.cell 2 rfl) (by omega) (by omega) (fun v6 ev6 rv6 => ?_)
      refine hd_ic_ne pkX14_add rfl (fun c7 => ?_) (fun c7 => ?_)
      · skip
        refine hd_aload pkX14_add rfl rfl (Int.natCast_nonneg _) ?_
        refine hd_iload pkX14_add rfl rfl ?_
        refine hd_iload pkX14_add rfl rfl ?_
        refine hd_callV pkX14_add rfl (q := (KX14_compare, yX14_compare, 14, 2, 0)) rfl rfl rfl (As := [(0, a), (0, b)]) (rest := []) (c := 2495) rfl rfl (Nat.le_of_ble_eq_true rfl) (g.cell 0 rfl).1 (g.cell 0 rfl).2.1 (h_X14_compare ha ha2 hb hb2 VA.1 VB.1 g) (hd_bI (fun w8 hc9 pc => ?_))
        obtain ⟨pc, ehc9⟩ := pc
        replace ehc9 := ehc9.symm
        subst ehc9
        rw [VA.2.1, VB.2.1] at pc
        have nx : x ≠ 0 := by have := VA.2.2; have := sgn3 x; omega
        have ny : y ≠ 0 := by have := VB.2.2; have := sgn3 y; omega
        have ne : x.sign ≠ y.sign := by have := VA.2.2; have := VB.2.2; omega
        refine hd_if_lt pkX14_add rfl (fun c10 => ?_) (fun c10 => ?_)
        · skip
          refine hd_aload pkX14_add rfl rfl (Int.natCast_nonneg _) ?_
          refine hd_iload pkX14_add rfl rfl ?_
          refine hd_ipush (z := 676) pkX14_add rfl ?_
          have VBo := VB
          refine hd_callV pkX14_add rfl (q := (KX14_copy, yX14_copy, 14, 2, 0)) rfl rfl rfl (As := [(0, b), (0, 676)]) (rest := []) (c := 2495) rfl rfl (Nat.le_of_ble_eq_true rfl) (g.cell 0 rfl).1 (g.cell 0 rfl).2.1 (h_X14_copy hb hb2 (by decide) (by decide) VB.1 g) (hd_bV (fun hc11 p4 => ?_))
          have ghc11 : Str t14 r14 hc11 := g.only p4.1.1 (by decide)
          have hC := hC.trans (p4.1.mono (all1 (inC inS)))
          have VA := VA.keep (by decide) p4.1 ha (nm1 an676)
          have V5 := nv_copy VBo p4
          refine hd_aload pkX14_add rfl rfl (Int.natCast_nonneg _) ?_
          refine hd_ipush (z := 676) pkX14_add rfl ?_
          refine hd_iload pkX14_add rfl rfl ?_
          refine hd_callV pkX14_add rfl (q := (KX14_takePlain, yX14_takePlain, 14, 2, 0)) rfl rfl rfl (As := [(0, 676), (0, a)]) (rest := []) (c := 2495) rfl rfl (Nat.le_of_ble_eq_true rfl) (ghc11.cell 0 rfl).1 (ghc11.cell 0 rfl).2.1 (h_X14_takePlain (by decide) (by decide) ha ha2 V5.1 VA.1 (by rw [VA.2.1, V5.2.1]; omega) ghc11) (hd_bV (fun hc12 p5 => ?_))
          have ghc12 : Str t14 r14 hc12 := ghc11.only p5.1.1 (by decide)
          have hC := hC.trans (p5.1.mono (all1 (inC inS)))
          have V5 := nv_take (x := y) (y := x) (p1 := p5.2.1) ny nx ne.symm (by omega) (by rw [p5.2.2.1, V5.2.1, VA.2.1]) (by rw [p5.2.2.2.2, V5.2.2])
          refine hd_aload pkX14_add rfl rfl (Int.natCast_nonneg _) ?_
          refine hd_ipush (z := 676) pkX14_add rfl ?_
          refine hd_iload pkX14_add rfl rfl ?_
          refine hd_callV pkX14_add rfl (q := (KX14_copy, yX14_copy, 14, 2, 0)) rfl rfl rfl (As := [(0, 676), (0, a)]) (rest := []) (c := 2495) rfl rfl (Nat.le_of_ble_eq_true rfl) (ghc12.cell 0 rfl).1 (ghc12.cell 0 rfl).2.1 (h_X14_copy (by decide) (by decide) ha ha2 V5.1 ghc12) (hd_bV (fun hc13 p6 => ?_))
          have ghc13 : Str t14 r14 hc13 := ghc12.only p6.1.1 (by decide)
          have hC := hC.trans (p6.1.mono (all1 inS))
          have VA := nv_copy V5 p6
          have e9 : y + x = x + y := Int.add_comm _ _
          refine hd_vret pkX14_add rfl ?_
          subst eQ
          first
            | exact ⟨rfl, hC, VA⟩
            | exact ⟨rfl, hC, by rw [e9] at VA; exact VA⟩
            | (have y0 : y = 0 := by have := VB.2.2; have := sgn3 y; omega
               exact ⟨rfl, hC, by rw [y0, Int.add_zero]; exact VA⟩)
        · skip
          refine hd_aload pkX14_add rfl rfl (Int.natCast_nonneg _) ?_
          refine hd_iload pkX14_add rfl rfl ?_
          refine hd_iload pkX14_add rfl rfl ?_
          refine hd_callV pkX14_add rfl (q := (KX14_takePlain, yX14_takePlain, 14, 2, 0)) rfl rfl rfl (As := [(0, a), (0, b)]) (rest := []) (c := 2495) rfl rfl (Nat.le_of_ble_eq_true rfl) (g.cell 0 rfl).1 (g.cell 0 rfl).2.1 (h_X14_takePlain ha ha2 hb hb2 VA.1 VB.1 (by rw [VA.2.1, VB.2.1]; omega) g) (hd_bV (fun hc14 p3 => ?_))
          have ghc14 : Str t14 r14 hc14 := g.only p3.1.1 (by decide)
          have hC := hC.trans (p3.1.mono (all1 inS))
          have VA := nv_take (p1 := p3.2.1) nx ny ne (by omega) (by rw [p3.2.2.1, VA.2.1, VB.2.1]) (by rw [p3.2.2.2.2, VA.2.2])
          refine hd_goto pkX14_add rfl ?_
          refine hd_vret pkX14_add rfl ?_
          subst eQ
          first
            | exact ⟨rfl, hC, VA⟩
            | exact ⟨rfl, hC, by rw [e9] at VA; exact VA⟩
            | (have y0 : y = 0 := by have := VB.2.2; have := sgn3 y; omega
               exact ⟨rfl, hC, by rw [y0, Int.add_zero]; exact VA⟩)
      · skip
        refine hd_aload pkX14_add rfl rfl (Int.natCast_nonneg _) ?_
        refine hd_iload pkX14_add rfl rfl ?_
        refine hd_iload pkX14_add rfl rfl ?_
        refine hd_callV pkX14_add rfl (q := (KX14_addPlain, yX14_addPlain, 14, 2, 0)) rfl rfl rfl (As := [(0, a), (0, b)]) (rest := []) (c := 2495) rfl rfl (Nat.le_of_ble_eq_true rfl) (g.cell 0 rfl).1 (g.cell 0 rfl).2.1 (h_X14_addPlain (m := (m : Int)) ha ha2 hb hb2 VA.1 VB.1 (VA.size hx) (VB.size hy) (by omega) g) (hd_bV (fun hc15 p1 => ?_))
        have ghc15 : Str t14 r14 hc15 := g.only p1.1.1 (by decide)
        have hC := hC.trans (p1.1.mono (all1 inS))
        have VA := nv_add (p1 := p1.2.1) VA VB (by have := VA.2.2; have := sgn3 x; omega) (by omega) p1.2.2.1 p1.2.2.2.2
        refine hd_goto pkX14_add rfl ?_
        refine hd_vret pkX14_add rfl ?_
        subst eQ
        first
          | exact ⟨rfl, hC, VA⟩
          | exact ⟨rfl, hC, by rw [e9] at VA; exact VA⟩
          | (have y0 : y = 0 := by have := VB.2.2; have := sgn3 y; omega
             exact ⟨rfl, hC, by rw [y0, Int.add_zero]; exact VA⟩)
    · skip
      refine hd_aload pkX14_add rfl rfl (Int.natCast_nonneg _) ?_
      refine hd_iload pkX14_add rfl rfl ?_
      refine hd_iload pkX14_add rfl rfl ?_
      have x0 : x = 0 := by have := VA.2.2; have := sgn3 x; omega
      refine hd_callV pkX14_add rfl (q := (KX14_copy, yX14_copy, 14, 2, 0)) rfl rfl rfl (As := [(0, b), (0, a)]) (rest := []) (c := 2495) rfl rfl (Nat.le_of_ble_eq_true rfl) (g.cell 0 rfl).1 (g.cell 0 rfl).2.1 (h_X14_copy hb hb2 ha ha2 VB.1 g) (hd_bV (fun hc16 p0 => ?_))
      have ghc16 : Str t14 r14 hc16 := g.only p0.1.1 (by decide)
      have hC := hC.trans (p0.1.mono (all1 inS))
      have VA := nv_copy VB p0
      have e9 : y = x + y := by omega
      refine hd_goto pkX14_add rfl ?_
      refine hd_vret pkX14_add rfl ?_
      subst eQ
      first
        | exact ⟨rfl, hC, VA⟩
        | exact ⟨rfl, hC, by rw [e9] at VA; exact VA⟩
        | (have y0 : y = 0 := by have := VB.2.2; have := sgn3 y; omega
           exact ⟨rfl, hC, by rw [y0, Int.add_zero]; exact VA⟩)
  · skip
    refine hd_vret pkX14_add rfl ?_
    subst eQ
    first
      | exact ⟨rfl, hC, VA⟩
      | exact ⟨rfl, hC, by rw [e9] at VA; exact VA⟩
      | (have y0 : y = 0 := by have := VB.2.2; have := sgn3 y; omega
         exact ⟨rfl, hC, by rw [y0, Int.add_zero]; exact VA⟩)
set_option maxRecDepth 20000 in
set_option maxHeartbeats 8000000 in
theorem h_X14_fraction {h : MH} {u d p q : Int} (hu : 0 ≤ u) (hu2 : u < 690) (hd : 0 ≤ d) (hd2 : d < 690) (ud : u ≠ d) (un : u ∉ [672, 673, 674, 675, 676]) (dn : d ∉ [672, 673, 674, 675, 676]) (hq : 0 < q) (hp : -9223372036854775807 ≤ p) (g : Str t14 r14 h) : MCal KX14_fraction yX14_fraction 0 0 [(2, ((2495 : Nat) : Int)), (0, u), (0, d), (1, p), (1, q)] h (mRV fun h' => Ch 70 2496 2497 [u, d, 672, 674, 675, 676] h h' ∧ Hr 70 2496 2497 h' u d (Rat.divInt p q)) := by
  refine MCal.ofMW (Or.inl rfl) ⟨cp_X14, rfl⟩ (Nat.le_of_ble_eq_true rfl) ?_
  generalize eQ : (mRV fun h' => Ch 70 2496 2497 [u, d, 672, 674, 675, 676] h h' ∧ Hr 70 2496 2497 h' u d (Rat.divInt p q) : MO → MH → Prop) = Q
  change MW KX14_fraction Q 0 0 (pcA pgX14_fraction 0) [(0, (2, ((2495 : Nat) : Int))), (1, (0, u)), (2, (0, d)), (3, (1, p)), (5, (1, q))] [] h
  refine hd_locI (i := 1) rfl (fun ru => ?_)
  refine hd_locI (i := 2) rfl (fun rd => ?_)
  refine hd_locL (i := 3) rfl (fun rp => ?_)
  refine hd_locL (i := 5) rfl (fun rq => ?_)
  simp only [List.mem_cons, List.not_mem_nil, or_false, not_or] at un dn
  obtain ⟨un672, un673, un674, un675, un676⟩ := un
  obtain ⟨dn672, dn673, dn674, dn675, dn676⟩ := dn
  have hC : Ch 70 2496 2497 [u, d, 672, 674, 675, 676] h h := Ch.refl _ _ _ _ _
  refine hd_aload pkX14_fraction rfl rfl (Int.natCast_nonneg _) ?_
  refine hd_iload pkX14_fraction rfl rfl ?_
  refine hd_lload pkX14_fraction rfl rfl ?_
  refine hd_callV pkX14_fraction rfl (q := (KX14_small, yX14_small, 14, 2, 0)) rfl rfl rfl (As := [(0, u), (1, p)]) (rest := []) (c := 2495) rfl rfl (Nat.le_of_ble_eq_true rfl) (g.cell 0 rfl).1 (g.cell 0 rfl).2.1 (h_X14_small hu hu2 (by omega) g) (hd_bV (fun hc1 p0 => ?_))
  have ghc1 : Str t14 r14 hc1 := g.only p0.1.1 (by decide)
  have hC := hC.trans (p0.1.mono (all1 inS))
  have VU := nv_small p0
  refine hd_aload pkX14_fraction rfl rfl (Int.natCast_nonneg _) ?_
  refine hd_iload pkX14_fraction rfl rfl ?_
  refine hd_lload pkX14_fraction rfl rfl ?_
  refine hd_callV pkX14_fraction rfl (q := (KX14_small, yX14_small, 14, 2, 0)) rfl rfl rfl (As := [(0, d), (1, q)]) (rest := []) (c := 2495) rfl rfl (Nat.le_of_ble_eq_true rfl) (ghc1.cell 0 rfl).1 (ghc1.cell 0 rfl).2.1 (h_X14_small hd hd2 (by omega) ghc1) (hd_bV (fun hc2 p1 => ?_))
  have ghc2 : Str t14 r14 hc2 := ghc1.only p1.1.1 (by decide)
  have hC := hC.trans (p1.1.mono (all1 (inC inS)))
  have VU := VU.keep (by decide) p1.1 hu (nm1 ud)
  have VD := nv_small p1
  refine hd_aload pkX14_fraction rfl rfl (Int.natCast_nonneg _) ?_
  refine hd_iload pkX14_fraction rfl rfl ?_
  refine hd_iload pkX14_fraction rfl rfl ?_
  have P3 : PW 3 = 4722366482869645213696 := by decide +kernel
  have s1 : (p.natAbs : Int) < PW 3 := by omega
  have s2 : (q.natAbs : Int) < PW 3 := by omega
  refine hd_callV pkX14_fraction rfl (q := (KX14_reduce, yX14_reduce, 14, 2, 0)) rfl rfl rfl (As := [(0, u), (0, d)]) (rest := []) (c := 2495) rfl rfl (Nat.le_of_ble_eq_true rfl) (ghc2.cell 0 rfl).1 (ghc2.cell 0 rfl).2.1 (h_X14_reduce (m := 3) hu hu2 hd hd2 ud (nmc un672 (nmc un674 (nmc un675 (nm1 un676)))) (nmc dn672 (nmc dn674 (nmc dn675 (nm1 dn676)))) VU.1 VU.2.1 VD.1 (nv_vl VD hq) (nv_su VU) hq s1 (PW_q hq s2) (by omega) (by omega) ghc2) (hd_bV (fun hc3 pr => ?_))
  have ghc3 : Str t14 r14 hc3 := ghc2.only pr.1.1 (by decide)
  have hC := hC.trans (pr.1.mono (allc inS (allc (inC inS) (allc (inC (inC inS)) (allc (inC (inC (inC inS))) (allc (inC (inC (inC (inC inS)))) (all1 (inC (inC (inC (inC (inC inS))))))))))))
  have HR := pr_reduce ⟨VU, VD, hq⟩ pr.2
  refine hd_vret pkX14_fraction rfl ?_
  subst eQ
  exact ⟨rfl, hC, HR⟩
set_option maxRecDepth 20000 in
set_option maxHeartbeats 8000000 in
theorem h_X14_addFraction {h : MH} {u d v w p1 q1 p2 q2 : Int} {m1 m2 : Nat} (hu : 0 ≤ u) (hu2 : u < 690) (hd : 0 ≤ d) (hd2 : d < 690) (hmu : 0 ≤ v) (hmu2 : v < 690) (hmd : 0 ≤ w) (hmd2 : w < 690) (ud : u ≠ d) (un : u ∉ [672, 673, 674, 675, 676]) (dn : d ∉ [672, 673, 674, 675, 676]) (vn : v ∉ [672, 673, 674, 675, 676]) (wn : w ∉ [672, 673, 674, 675, 676]) (P1 : Pr 70 2496 2497 h u d p1 q1) (P2 : Pr 70 2496 2497 h v w p2 q2) (b1 : (p1.natAbs : Int) < PW m1) (b2 : (q1.natAbs : Int) < PW m1) (b3 : (p2.natAbs : Int) < PW m2) (b4 : (q2.natAbs : Int) < PW m2) (hm : (m1 + m2 : Int) + 5 < 70) (g : Str t14 r14 h) : MCal KX14_addFraction yX14_addFraction 0 0 [(2, ((2495 : Nat) : Int)), (0, u), (0, d), (0, v), (0, w)] h (mRV fun h' => Ch 70 2496 2497 [u, d, 672, 673, 674, 675, 676] h h' ∧ Hr 70 2496 2497 h' u d (Rat.divInt (p1 * q2 + p2 * q1) (q1 * q2))) := by
  refine MCal.ofMW (Or.inl rfl) ⟨cp_X14, rfl⟩ (Nat.le_of_ble_eq_true rfl) ?_
  generalize eQ : (mRV fun h' => Ch 70 2496 2497 [u, d, 672, 673, 674, 675, 676] h h' ∧ Hr 70 2496 2497 h' u d (Rat.divInt (p1 * q2 + p2 * q1) (q1 * q2)) : MO → MH → Prop) = Q
  change MW KX14_addFraction Q 0 0 (pcA pgX14_addFraction 0) [(0, (2, ((2495 : Nat) : Int))), (1, (0, u)), (2, (0, d)), (3, (0, v)), (4, (0, w))] [] h
  refine hd_locI (i := 1) rfl (fun ru => ?_)
  refine hd_locI (i := 2) rfl (fun rd => ?_)
  refine hd_locI (i := 3) rfl (fun rv => ?_)
  refine hd_locI (i := 4) rfl (fun rw => ?_)
  have hm9 : (m1 : Int) + m2 < 70 := by omega
  have hm8 : (m2 : Int) + m1 < 70 := by omega
  have hm7 : (m1 + m2 + 1 : Int) + 4 < 70 := by omega
  have hm6 : ((m1 + m2 : Nat) : Int) + 2 < 70 := by omega
  simp only [List.mem_cons, List.not_mem_nil, or_false, not_or] at un dn vn wn
  obtain ⟨un672, un673, un674, un675, un676⟩ := un
  obtain ⟨dn672, dn673, dn674, dn675, dn676⟩ := dn
  obtain ⟨vn672, vn673, vn674, vn675, vn676⟩ := vn
  obtain ⟨wn672, wn673, wn674, wn675, wn676⟩ := wn
  obtain ⟨VU, VD, hq1⟩ := P1
  obtain ⟨VM, VN, hq2⟩ := P2
  have hC : Ch 70 2496 2497 [u, d, 672, 673, 674, 675, 676] h h := Ch.refl _ _ _ _ _
  refine hd_aload pkX14_addFraction rfl rfl (Int.natCast_nonneg _) ?_
  refine hd_iload pkX14_addFraction rfl rfl ?_
  refine hd_iload pkX14_addFraction rfl rfl ?_
  refine hd_ipush (z := 672) pkX14_addFraction rfl ?_
  have VUo := VU
  have VNo := VN
  refine hd_callV pkX14_addFraction rfl (q := (KX14_product, yX14_product, 14, 3, 0)) rfl rfl rfl (As := [(0, u), (0, w), (0, 672)]) (rest := []) (c := 2495) rfl rfl (Nat.le_of_ble_eq_true rfl) (g.cell 0 rfl).1 (g.cell 0 rfl).2.1 (h_X14_product hu hu2 hmd hmd2 (by decide) (by decide) un672 wn672 VU.1 VN.1 (nv_szs VU VN b1 b4 hm9) VU.sg VN.sg g) (hd_bV (fun hc1 pp0 => ?_))
  have ghc1 : Str t14 r14 hc1 := g.only pp0.1.1 (by decide)
  have hC := hC.trans (pp0.1.mono (all1 (inC (inC inS))))
  have VU := VU.keep (by decide) pp0.1 hu (nm1 un672)
  have VD := VD.keep (by decide) pp0.1 hd (nm1 dn672)
  have VM := VM.keep (by decide) pp0.1 hmu (nm1 vn672)
  have VN := VN.keep (by decide) pp0.1 hmd (nm1 wn672)
  have V1 := nv_product VUo VNo pp0
  refine hd_aload pkX14_addFraction rfl rfl (Int.natCast_nonneg _) ?_
  refine hd_iload pkX14_addFraction rfl rfl ?_
  refine hd_iload pkX14_addFraction rfl rfl ?_
  refine hd_ipush (z := 673) pkX14_addFraction rfl ?_
  have VMo := VM
  have VDo := VD
  refine hd_callV pkX14_addFraction rfl (q := (KX14_product, yX14_product, 14, 3, 0)) rfl rfl rfl (As := [(0, v), (0, d), (0, 673)]) (rest := []) (c := 2495) rfl rfl (Nat.le_of_ble_eq_true rfl) (ghc1.cell 0 rfl).1 (ghc1.cell 0 rfl).2.1 (h_X14_product hmu hmu2 hd hd2 (by decide) (by decide) vn673 dn673 VM.1 VD.1 (nv_szs VM VD b3 b2 hm8) VM.sg VD.sg ghc1) (hd_bV (fun hc2 pp1 => ?_))
  have ghc2 : Str t14 r14 hc2 := ghc1.only pp1.1.1 (by decide)
  have hC := hC.trans (pp1.1.mono (all1 (inC (inC (inC inS)))))
  have VU := VU.keep (by decide) pp1.1 hu (nm1 un673)
  have VD := VD.keep (by decide) pp1.1 hd (nm1 dn673)
  have VM := VM.keep (by decide) pp1.1 hmu (nm1 vn673)
  have VN := VN.keep (by decide) pp1.1 hmd (nm1 wn673)
  have V1 := V1.keep (by decide) pp1.1 (by decide) (nm1 (by decide))
  have V2 := nv_product VMo VDo pp1
  refine hd_aload pkX14_addFraction rfl rfl (Int.natCast_nonneg _) ?_
  refine hd_ipush (z := 672) pkX14_addFraction rfl ?_
  refine hd_ipush (z := 673) pkX14_addFraction rfl ?_
  have s0 := PW_mul b3 b2
  rw [Nat.add_comm] at s0
  refine hd_callV pkX14_addFraction rfl (q := (KX14_add, yX14_add, 14, 2, 0)) rfl rfl rfl (As := [(0, 672), (0, 673)]) (rest := []) (c := 2495) rfl rfl (Nat.le_of_ble_eq_true rfl) (ghc2.cell 0 rfl).1 (ghc2.cell 0 rfl).2.1 (h_X14_add (m := m1 + m2) (by decide) (by decide) (by decide) (by decide) (by decide) (by decide) (by decide) V1 V2 (PW_mul b1 b4) s0 hm6 ghc2) (hd_bV (fun hc3 pa => ?_))
  have ghc3 : Str t14 r14 hc3 := ghc2.only pa.1.1 (by decide)
  have hC := hC.trans (pa.1.mono (allc (inC (inC inS)) (all1 (inC (inC (inC (inC (inC (inC inS)))))))))
  have VU := VU.keep (by decide) pa.1 hu (nmc un672 (nm1 un676))
  have VD := VD.keep (by decide) pa.1 hd (nmc dn672 (nm1 dn676))
  have VM := VM.keep (by decide) pa.1 hmu (nmc vn672 (nm1 vn676))
  have VN := VN.keep (by decide) pa.1 hmd (nmc wn672 (nm1 wn676))
  have V1 := pa.2
  refine hd_aload pkX14_addFraction rfl rfl (Int.natCast_nonneg _) ?_
  refine hd_iload pkX14_addFraction rfl rfl ?_
  refine hd_iload pkX14_addFraction rfl rfl ?_
  refine hd_ipush (z := 673) pkX14_addFraction rfl ?_
  have VDo := VD
  have VNo := VN
  refine hd_callV pkX14_addFraction rfl (q := (KX14_product, yX14_product, 14, 3, 0)) rfl rfl rfl (As := [(0, d), (0, w), (0, 673)]) (rest := []) (c := 2495) rfl rfl (Nat.le_of_ble_eq_true rfl) (ghc3.cell 0 rfl).1 (ghc3.cell 0 rfl).2.1 (h_X14_product hd hd2 hmd hmd2 (by decide) (by decide) dn673 wn673 VD.1 VN.1 (nv_szs VD VN b2 b4 hm9) VD.sg VN.sg ghc3) (hd_bV (fun hc4 pp3 => ?_))
  have ghc4 : Str t14 r14 hc4 := ghc3.only pp3.1.1 (by decide)
  have hC := hC.trans (pp3.1.mono (all1 (inC (inC (inC inS)))))
  have VU := VU.keep (by decide) pp3.1 hu (nm1 un673)
  have VD := VD.keep (by decide) pp3.1 hd (nm1 dn673)
  have V1 := V1.keep (by decide) pp3.1 (by decide) (nm1 (by decide))
  have V2 := nv_product VDo VNo pp3
  refine hd_aload pkX14_addFraction rfl rfl (Int.natCast_nonneg _) ?_
  refine hd_ipush (z := 672) pkX14_addFraction rfl ?_
  refine hd_iload pkX14_addFraction rfl rfl ?_
  refine hd_callV pkX14_addFraction rfl (q := (KX14_copy, yX14_copy, 14, 2, 0)) rfl rfl rfl (As := [(0, 672), (0, u)]) (rest := []) (c := 2495) rfl rfl (Nat.le_of_ble_eq_true rfl) (ghc4.cell 0 rfl).1 (ghc4.cell 0 rfl).2.1 (h_X14_copy (by decide) (by decide) hu hu2 V1.1 ghc4) (hd_bV (fun hc5 p4 => ?_))
  have ghc5 : Str t14 r14 hc5 := ghc4.only p4.1.1 (by decide)
  have hC := hC.trans (p4.1.mono (all1 inS))
  have VD := VD.keep (by decide) p4.1 hd (nm1 (Ne.symm ud))
  have V2 := V2.keep (by decide) p4.1 (by decide) (nm1 (Ne.symm un673))
  have VU := nv_copy V1 p4
  refine hd_aload pkX14_addFraction rfl rfl (Int.natCast_nonneg _) ?_
  refine hd_ipush (z := 673) pkX14_addFraction rfl ?_
  refine hd_iload pkX14_addFraction rfl rfl ?_
  refine hd_callV pkX14_addFraction rfl (q := (KX14_copy, yX14_copy, 14, 2, 0)) rfl rfl rfl (As := [(0, 673), (0, d)]) (rest := []) (c := 2495) rfl rfl (Nat.le_of_ble_eq_true rfl) (ghc5.cell 0 rfl).1 (ghc5.cell 0 rfl).2.1 (h_X14_copy (by decide) (by decide) hd hd2 V2.1 ghc5) (hd_bV (fun hc6 p5 => ?_))
  have ghc6 : Str t14 r14 hc6 := ghc5.only p5.1.1 (by decide)
  have hC := hC.trans (p5.1.mono (all1 (inC inS)))
  have VU := VU.keep (by decide) p5.1 hu (nm1 ud)
  have VD := nv_copy V2 p5
  refine hd_aload pkX14_addFraction rfl rfl (Int.natCast_nonneg _) ?_
  refine hd_iload pkX14_addFraction rfl rfl ?_
  refine hd_iload pkX14_addFraction rfl rfl ?_
  have hq : 0 < q1 * q2 := Int.mul_pos hq1 hq2
  have s1 := PW_sum (PW_mul b1 b4) s0
  have s2 := PW_up (n := m1 + m2 + 1) (PW_mul b2 b4) (Nat.le_succ _)
  refine hd_callV pkX14_addFraction rfl (q := (KX14_reduce, yX14_reduce, 14, 2, 0)) rfl rfl rfl (As := [(0, u), (0, d)]) (rest := []) (c := 2495) rfl rfl (Nat.le_of_ble_eq_true rfl) (ghc6.cell 0 rfl).1 (ghc6.cell 0 rfl).2.1 (h_X14_reduce (m := m1 + m2 + 1) hu hu2 hd hd2 ud (nmc un672 (nmc un674 (nmc un675 (nm1 un676)))) (nmc dn672 (nmc dn674 (nmc dn675 (nm1 dn676)))) VU.1 VU.2.1 VD.1 (nv_vl VD hq) (nv_su VU) hq s1 (PW_q hq s2) (by omega) (by omega) ghc6) (hd_bV (fun hc7 pr => ?_))
  have ghc7 : Str t14 r14 hc7 := ghc6.only pr.1.1 (by decide)
  have hC := hC.trans (pr.1.mono (allc inS (allc (inC inS) (allc (inC (inC inS)) (allc (inC (inC (inC (inC inS)))) (allc (inC (inC (inC (inC (inC inS))))) (all1 (inC (inC (inC (inC (inC (inC inS)))))))))))))
  have HR := pr_reduce ⟨VU, VD, hq⟩ pr.2
  refine hd_vret pkX14_addFraction rfl ?_
  subst eQ
  exact ⟨rfl, hC, HR⟩
set_option maxRecDepth 20000 in
set_option maxHeartbeats 8000000 in
theorem h_X14_timesFraction {h : MH} {u d v w p1 q1 p2 q2 : Int} {m1 m2 : Nat} (hu : 0 ≤ u) (hu2 : u < 690) (hd : 0 ≤ d) (hd2 : d < 690) (hmu : 0 ≤ v) (hmu2 : v < 690) (hmd : 0 ≤ w) (hmd2 : w < 690) (ud : u ≠ d) (un : u ∉ [672, 673, 674, 675, 676]) (dn : d ∉ [672, 673, 674, 675, 676]) (vn : v ∉ [672, 673, 674, 675, 676]) (wn : w ∉ [672, 673, 674, 675, 676]) (P1 : Pr 70 2496 2497 h u d p1 q1) (P2 : Pr 70 2496 2497 h v w p2 q2) (b1 : (p1.natAbs : Int) < PW m1) (b2 : (q1.natAbs : Int) < PW m1) (b3 : (p2.natAbs : Int) < PW m2) (b4 : (q2.natAbs : Int) < PW m2) (hm : (m1 + m2 : Int) + 5 < 70) (g : Str t14 r14 h) : MCal KX14_timesFraction yX14_timesFraction 0 0 [(2, ((2495 : Nat) : Int)), (0, u), (0, d), (0, v), (0, w)] h (mRV fun h' => Ch 70 2496 2497 [u, d, 672, 673, 674, 675, 676] h h' ∧ Hr 70 2496 2497 h' u d (Rat.divInt (p1 * p2) (q1 * q2))) := by
  refine MCal.ofMW (Or.inl rfl) ⟨cp_X14, rfl⟩ (Nat.le_of_ble_eq_true rfl) ?_
  generalize eQ : (mRV fun h' => Ch 70 2496 2497 [u, d, 672, 673, 674, 675, 676] h h' ∧ Hr 70 2496 2497 h' u d (Rat.divInt (p1 * p2) (q1 * q2)) : MO → MH → Prop) = Q
  change MW KX14_timesFraction Q 0 0 (pcA pgX14_timesFraction 0) [(0, (2, ((2495 : Nat) : Int))), (1, (0, u)), (2, (0, d)), (3, (0, v)), (4, (0, w))] [] h
  refine hd_locI (i := 1) rfl (fun ru => ?_)
  refine hd_locI (i := 2) rfl (fun rd => ?_)
  refine hd_locI (i := 3) rfl (fun rv => ?_)
  refine hd_locI (i := 4) rfl (fun rw => ?_)
  have hm9 : (m1 : Int) + m2 < 70 := by omega
  have hm8 : (m2 : Int) + m1 < 70 := by omega
  have hm7 : (m1 + m2 + 1 : Int) + 4 < 70 := by omega
  have hm6 : ((m1 + m2 : Nat) : Int) + 2 < 70 := by omega
  simp only [List.mem_cons, List.not_mem_nil, or_false, not_or] at un dn vn wn
  obtain ⟨un672, un673, un674, un675, un676⟩ := un
  obtain ⟨dn672, dn673, dn674, dn675, dn676⟩ := dn
  obtain ⟨vn672, vn673, vn674, vn675, vn676⟩ := vn
  obtain ⟨wn672, wn673, wn674, wn675, wn676⟩ := wn
  obtain ⟨VU, VD, hq1⟩ := P1
  obtain ⟨VM, VN, hq2⟩ := P2
  have hC : Ch 70 2496 2497 [u, d, 672, 673, 674, 675, 676] h h := Ch.refl _ _ _ _ _
  refine hd_aload pkX14_timesFraction rfl rfl (Int.natCast_nonneg _) ?_
  refine hd_iload pkX14_timesFraction rfl rfl ?_
  refine hd_iload pkX14_timesFraction rfl rfl ?_
  refine hd_ipush (z := 672) pkX14_timesFraction rfl ?_
  have VUo := VU
  have VMo := VM
  refine hd_callV pkX14_timesFraction rfl (q := (KX14_product, yX14_product, 14, 3, 0)) rfl rfl rfl (As := [(0, u), (0, v), (0, 672)]) (rest := []) (c := 2495) rfl rfl (Nat.le_of_ble_eq_true rfl) (g.cell 0 rfl).1 (g.cell 0 rfl).2.1 (h_X14_product hu hu2 hmu hmu2 (by decide) (by decide) un672 vn672 VU.1 VM.1 (nv_szs VU VM b1 b3 hm9) VU.sg VM.sg g) (hd_bV (fun hc1 pp0 => ?_))
  have ghc1 : Str t14 r14 hc1 := g.only pp0.1.1 (by decide)
  have hC := hC.trans (pp0.1.mono (all1 (inC (inC inS))))
  have VU := VU.keep (by decide) pp0.1 hu (nm1 un672)
  have VD := VD.keep (by decide) pp0.1 hd (nm1 dn672)
  have VM := VM.keep (by decide) pp0.1 hmu (nm1 vn672)
  have VN := VN.keep (by decide) pp0.1 hmd (nm1 wn672)
  have V1 := nv_product VUo VMo pp0
  refine hd_aload pkX14_timesFraction rfl rfl (Int.natCast_nonneg _) ?_
  refine hd_iload pkX14_timesFraction rfl rfl ?_
  refine hd_iload pkX14_timesFraction rfl rfl ?_
  refine hd_ipush (z := 673) pkX14_timesFraction rfl ?_
  have VDo := VD
  have VNo := VN
  refine hd_callV pkX14_timesFraction rfl (q := (KX14_product, yX14_product, 14, 3, 0)) rfl rfl rfl (As := [(0, d), (0, w), (0, 673)]) (rest := []) (c := 2495) rfl rfl (Nat.le_of_ble_eq_true rfl) (ghc1.cell 0 rfl).1 (ghc1.cell 0 rfl).2.1 (h_X14_product hd hd2 hmd hmd2 (by decide) (by decide) dn673 wn673 VD.1 VN.1 (nv_szs VD VN b2 b4 hm9) VD.sg VN.sg ghc1) (hd_bV (fun hc2 pp1 => ?_))
  have ghc2 : Str t14 r14 hc2 := ghc1.only pp1.1.1 (by decide)
  have hC := hC.trans (pp1.1.mono (all1 (inC (inC (inC inS)))))
  have V1 := V1.keep (by decide) pp1.1 (by decide) (nm1 (by decide))
  have V2 := nv_product VDo VNo pp1
  refine hd_aload pkX14_timesFraction rfl rfl (Int.natCast_nonneg _) ?_
  refine hd_ipush (z := 672) pkX14_timesFraction rfl ?_
  refine hd_iload pkX14_timesFraction rfl rfl ?_
  refine hd_callV pkX14_timesFraction rfl (q := (KX14_copy, yX14_copy, 14, 2, 0)) rfl rfl rfl (As := [(0, 672), (0, u)]) (rest := []) (c := 2495) rfl rfl (Nat.le_of_ble_eq_true rfl) (ghc2.cell 0 rfl).1 (ghc2.cell 0 rfl).2.1 (h_X14_copy (by decide) (by decide) hu hu2 V1.1 ghc2) (hd_bV (fun hc3 p4 => ?_))
  have ghc3 : Str t14 r14 hc3 := ghc2.only p4.1.1 (by decide)
  have hC := hC.trans (p4.1.mono (all1 inS))
  have V2 := V2.keep (by decide) p4.1 (by decide) (nm1 (Ne.symm un673))
  have VU := nv_copy V1 p4
  refine hd_aload pkX14_timesFraction rfl rfl (Int.natCast_nonneg _) ?_
  refine hd_ipush (z := 673) pkX14_timesFraction rfl ?_
  refine hd_iload pkX14_timesFraction rfl rfl ?_
  refine hd_callV pkX14_timesFraction rfl (q := (KX14_copy, yX14_copy, 14, 2, 0)) rfl rfl rfl (As := [(0, 673), (0, d)]) (rest := []) (c := 2495) rfl rfl (Nat.le_of_ble_eq_true rfl) (ghc3.cell 0 rfl).1 (ghc3.cell 0 rfl).2.1 (h_X14_copy (by decide) (by decide) hd hd2 V2.1 ghc3) (hd_bV (fun hc4 p5 => ?_))
  have ghc4 : Str t14 r14 hc4 := ghc3.only p5.1.1 (by decide)
  have hC := hC.trans (p5.1.mono (all1 (inC inS)))
  have VU := VU.keep (by decide) p5.1 hu (nm1 ud)
  have VD := nv_copy V2 p5
  refine hd_aload pkX14_timesFraction rfl rfl (Int.natCast_nonneg _) ?_
  refine hd_iload pkX14_timesFraction rfl rfl ?_
  refine hd_iload pkX14_timesFraction rfl rfl ?_
  have hq : 0 < q1 * q2 := Int.mul_pos hq1 hq2
  have s1 := PW_mul b1 b3
  have s2 := PW_mul b2 b4
  have m0 : 1 ≤ m1 + m2 := by
    by_cases w9 : 1 ≤ m1 + m2
    · exact w9
    · have e : m1 = 0 := by omega
      rw [e] at b2
      have : PW 0 = 1 := rfl
      omega
  refine hd_callV pkX14_timesFraction rfl (q := (KX14_reduce, yX14_reduce, 14, 2, 0)) rfl rfl rfl (As := [(0, u), (0, d)]) (rest := []) (c := 2495) rfl rfl (Nat.le_of_ble_eq_true rfl) (ghc4.cell 0 rfl).1 (ghc4.cell 0 rfl).2.1 (h_X14_reduce (m := m1 + m2) hu hu2 hd hd2 ud (nmc un672 (nmc un674 (nmc un675 (nm1 un676)))) (nmc dn672 (nmc dn674 (nmc dn675 (nm1 dn676)))) VU.1 VU.2.1 VD.1 (nv_vl VD hq) (nv_su VU) hq s1 (PW_q hq s2) (by omega) (by omega) ghc4) (hd_bV (fun hc5 pr => ?_))
  have ghc5 : Str t14 r14 hc5 := ghc4.only pr.1.1 (by decide)
  have hC := hC.trans (pr.1.mono (allc inS (allc (inC inS) (allc (inC (inC inS)) (allc (inC (inC (inC (inC inS)))) (allc (inC (inC (inC (inC (inC inS))))) (all1 (inC (inC (inC (inC (inC (inC inS)))))))))))))
  have HR := pr_reduce ⟨VU, VD, hq⟩ pr.2
  refine hd_vret pkX14_timesFraction rfl ?_
  subst eQ
  exact ⟨rfl, hC, HR⟩
set_option maxRecDepth 20000 in
set_option maxHeartbeats 8000000 in
theorem h_X14_divideFraction {h : MH} {u d v w p1 q1 p2 q2 : Int} {m1 m2 : Nat} (hu : 0 ≤ u) (hu2 : u < 690) (hd : 0 ≤ d) (hd2 : d < 690) (hmu : 0 ≤ v) (hmu2 : v < 690) (hmd : 0 ≤ w) (hmd2 : w < 690) (ud : u ≠ d) (un : u ∉ [672, 673, 674, 675, 676]) (dn : d ∉ [672, 673, 674, 675, 676]) (vn : v ∉ [672, 673, 674, 675, 676]) (wn : w ∉ [672, 673, 674, 675, 676]) (P1 : Pr 70 2496 2497 h u d p1 q1) (P2 : Pr 70 2496 2497 h v w p2 q2) (h2 : p2 ≠ 0) (b1 : (p1.natAbs : Int) < PW m1) (b2 : (q1.natAbs : Int) < PW m1) (b3 : (p2.natAbs : Int) < PW m2) (b4 : (q2.natAbs : Int) < PW m2) (hm : (m1 + m2 : Int) + 5 < 70) (g : Str t14 r14 h) : MCal KX14_divideFraction yX14_divideFraction 0 0 [(2, ((2495 : Nat) : Int)), (0, u), (0, d), (0, v), (0, w)] h (mRV fun h' => Ch 70 2496 2497 [u, d, 672, 673, 674, 675, 676] h h' ∧ Hr 70 2496 2497 h' u d (Rat.divInt (p1 * q2) (q1 * p2))) := by
  refine MCal.ofMW (Or.inl rfl) ⟨cp_X14, rfl⟩ (Nat.le_of_ble_eq_true rfl) ?_
  generalize eQ : (mRV fun h' => Ch 70 2496 2497 [u, d, 672, 673, 674, 675, 676] h h' ∧ Hr 70 2496 2497 h' u d (Rat.divInt (p1 * q2) (q1 * p2)) : MO → MH → Prop) = Q
  change MW KX14_divideFraction Q 0 0 (pcA pgX14_divideFraction 0) [(0, (2, ((2495 : Nat) : Int))), (1, (0, u)), (2, (0, d)), (3, (0, v)), (4, (0, w))] [] h
  refine hd_locI (i := 1) rfl (fun ru => ?_)
  refine hd_locI (i := 2) rfl (fun rd => ?_)
  refine hd_locI (i := 3) rfl (fun rv => ?_)
  refine hd_locI (i := 4) rfl (fun rw => ?_)
  have hm9 : (m1 : Int) + m2 < 70 := by omega
  simp only [List.mem_cons, List.not_mem_nil, or_false, not_or] at un dn vn wn
  obtain ⟨un672, un673, un674, un675, un676⟩ := un
  obtain ⟨dn672, dn673, dn674, dn675, dn676⟩ := dn
  obtain ⟨vn672, vn673, vn674, vn675, vn676⟩ := vn
  obtain ⟨wn672, wn673, wn674, wn675, wn676⟩ := wn
  obtain ⟨VU, VD, hq1⟩ := P1
  obtain ⟨VM, VN, hq2⟩ := P2
  have sq1 : q1.sign = 1 := Int.sign_eq_one_of_pos hq1
  have hC : Ch 70 2496 2497 [u, d, 672, 673, 674, 675, 676] h h := Ch.refl _ _ _ _ _
  refine hd_aload pkX14_divideFraction rfl rfl (Int.natCast_nonneg _) ?_
  refine hd_iload pkX14_divideFraction rfl rfl ?_
  refine hd_iload pkX14_divideFraction rfl rfl ?_
  refine hd_ipush (z := 672) pkX14_divideFraction rfl ?_
  have VUo := VU
  have VNo := VN
  refine hd_callV pkX14_divideFraction rfl (q := (KX14_product, yX14_product, 14, 3, 0)) rfl rfl rfl (As := [(0, u), (0, w), (0, 672)]) (rest := []) (c := 2495) rfl rfl (Nat.le_of_ble_eq_true rfl) (g.cell 0 rfl).1 (g.cell 0 rfl).2.1 (h_X14_product hu hu2 hmd hmd2 (by decide) (by decide) un672 wn672 VU.1 VN.1 (nv_szs VU VN b1 b4 hm9) VU.sg VN.sg g) (hd_bV (fun hc1 pp0 => ?_))
  have ghc1 : Str t14 r14 hc1 := g.only pp0.1.1 (by decide)
  have hC := hC.trans (pp0.1.mono (all1 (inC (inC inS))))
  have VU := VU.keep (by decide) pp0.1 hu (nm1 un672)
  have VD := VD.keep (by decide) pp0.1 hd (nm1 dn672)
  have VM := VM.keep (by decide) pp0.1 hmu (nm1 vn672)
  have VN := VN.keep (by decide) pp0.1 hmd (nm1 wn672)
  have V1 := nv_product VUo VNo pp0
  refine hd_aload pkX14_divideFraction rfl rfl (Int.natCast_nonneg _) ?_
  refine hd_iload pkX14_divideFraction rfl rfl ?_
  refine hd_iload pkX14_divideFraction rfl rfl ?_
  refine hd_ipush (z := 673) pkX14_divideFraction rfl ?_
  have VDo := VD
  have VMo := VM
  refine hd_callV pkX14_divideFraction rfl (q := (KX14_product, yX14_product, 14, 3, 0)) rfl rfl rfl (As := [(0, d), (0, v), (0, 673)]) (rest := []) (c := 2495) rfl rfl (Nat.le_of_ble_eq_true rfl) (ghc1.cell 0 rfl).1 (ghc1.cell 0 rfl).2.1 (h_X14_product hd hd2 hmu hmu2 (by decide) (by decide) dn673 vn673 VD.1 VM.1 (nv_szs VD VM b2 b3 hm9) VD.sg VM.sg ghc1) (hd_bV (fun hc2 pp1 => ?_))
  have ghc2 : Str t14 r14 hc2 := ghc1.only pp1.1.1 (by decide)
  have hC := hC.trans (pp1.1.mono (all1 (inC (inC (inC inS)))))
  have V1 := V1.keep (by decide) pp1.1 (by decide) (nm1 (by decide))
  have V2 := nv_product VDo VMo pp1
  refine hd_aload pkX14_divideFraction rfl rfl (Int.natCast_nonneg _) ?_
  refine hd_getR (n := 2497) pkX14_divideFraction rfl (ghc2.cell 0 rfl).1 (ghc2.cell 0 rfl).2.1 (ghc2.ref 1 rfl) ?_
  refine hd_ipush (z := 672) pkX14_divideFraction rfl ?_
  refine hd_iald (n := 690) pkX14_divideFraction rfl (ghc2.cell 2 rfl) (by omega) (by omega) (fun v3 ev3 rv3 => ?_)
  have e1s : v3 = (p1 * q2).sign := by rw [ev3]; exact V1.2.2
  have w1s : -1 ≤ v3 ∧ v3 ≤ 1 := by rw [ev3]; exact V1.sg
  refine hd_aload pkX14_divideFraction rfl rfl (Int.natCast_nonneg _) ?_
  refine hd_getR (n := 2497) pkX14_divideFraction rfl (ghc2.cell 0 rfl).1 (ghc2.cell 0 rfl).2.1 (ghc2.ref 1 rfl) ?_
  refine hd_ipush (z := 673) pkX14_divideFraction rfl ?_
  refine hd_iald (n := 690) pkX14_divideFraction rfl (ghc2.cell 2 rfl) (by omega) (by omega) (fun v4 ev4 rv4 => ?_)
  have e2s : v4 = (q1 * p2).sign := by rw [ev4]; exact V2.2.2
  have w2s : -1 ≤ v4 ∧ v4 ≤ 1 := by rw [ev4]; exact V2.sg
  have w3s := sgn_mul w1s w2s
  refine hd_imul pkX14_divideFraction rfl (by omega) ?_
  refine hd_istore pkX14_divideFraction rfl rfl ?_
  change MW _ _ _ _ _ [(5, (0, (v3 * v4))), (0, (2, ((2495 : Nat) : Int))), (1, (0, u)), (2, (0, d)), (3, (0, v)), (4, (0, w))] _ _
  refine hd_aload pkX14_divideFraction rfl rfl (Int.natCast_nonneg _) ?_
  refine hd_ipush (z := 672) pkX14_divideFraction rfl ?_
  refine hd_iload pkX14_divideFraction rfl rfl ?_
  refine hd_callV pkX14_divideFraction rfl (q := (KX14_copy, yX14_copy, 14, 2, 0)) rfl rfl rfl (As := [(0, 672), (0, u)]) (rest := []) (c := 2495) rfl rfl (Nat.le_of_ble_eq_true rfl) (ghc2.cell 0 rfl).1 (ghc2.cell 0 rfl).2.1 (h_X14_copy (by decide) (by decide) hu hu2 V1.1 ghc2) (hd_bV (fun hc5 p4 => ?_))
  have ghc5 : Str t14 r14 hc5 := ghc2.only p4.1.1 (by decide)
  have hC := hC.trans (p4.1.mono (all1 inS))
  have V2 := V2.keep (by decide) p4.1 (by decide) (nm1 (Ne.symm un673))
  have VU := nv_copy V1 p4
  refine hd_aload pkX14_divideFraction rfl rfl (Int.natCast_nonneg _) ?_
  refine hd_ipush (z := 673) pkX14_divideFraction rfl ?_
  refine hd_iload pkX14_divideFraction rfl rfl ?_
  refine hd_callV pkX14_divideFraction rfl (q := (KX14_copy, yX14_copy, 14, 2, 0)) rfl rfl rfl (As := [(0, 673), (0, d)]) (rest := []) (c := 2495) rfl rfl (Nat.le_of_ble_eq_true rfl) (ghc5.cell 0 rfl).1 (ghc5.cell 0 rfl).2.1 (h_X14_copy (by decide) (by decide) hd hd2 V2.1 ghc5) (hd_bV (fun hc6 p5 => ?_))
  have ghc6 : Str t14 r14 hc6 := ghc5.only p5.1.1 (by decide)
  have hC := hC.trans (p5.1.mono (all1 (inC inS)))
  have VU := VU.keep (by decide) p5.1 hu (nm1 ud)
  have VD := nv_copy V2 p5
  refine hd_aload pkX14_divideFraction rfl rfl (Int.natCast_nonneg _) ?_
  refine hd_getR (n := 2497) pkX14_divideFraction rfl (ghc6.cell 0 rfl).1 (ghc6.cell 0 rfl).2.1 (ghc6.ref 1 rfl) ?_
  refine hd_iload pkX14_divideFraction rfl rfl ?_
  refine hd_iload pkX14_divideFraction rfl rfl ?_
  refine hd_iast (n := 690) pkX14_divideFraction rfl (ghc6.cell 2 rfl) (by decide) (by omega) (by omega) (fun hh7 ehh7 => ?_)
  have ghh7 : Str t14 r14 hh7 := by rw [ehh7]; exact ghc6.setA rfl
  have hC : Ch 70 2496 2497 [u, d, 672, 673, 674, 675, 676] h hh7 := by
    rw [ehh7]
    exact hC.sgn (by decide) hu inS
  have VD : Nv 70 2496 2497 hh7 d (q1 * p2) := by
    rw [ehh7]
    exact VD.other (by decide) hu hd (Ne.symm ud)
  have VU : Nv 70 2496 2497 hh7 u (p1 * q2 * p2.sign) := by
    rw [ehh7]
    refine nv_resign VU (by decide) hu (sg_one h2 _) ?_
    rw [e1s, e2s, Int.sign_mul (p1 * q2), Int.sign_mul q1, sq1, Int.one_mul, sign_sign]
  refine hd_aload pkX14_divideFraction rfl rfl (Int.natCast_nonneg _) ?_
  refine hd_getR (n := 2497) pkX14_divideFraction rfl (ghh7.cell 0 rfl).1 (ghh7.cell 0 rfl).2.1 (ghh7.ref 1 rfl) ?_
  refine hd_iload pkX14_divideFraction rfl rfl ?_
  refine hd_ipush (z := 1) pkX14_divideFraction rfl ?_
  refine hd_iast (n := 690) pkX14_divideFraction rfl (ghh7.cell 2 rfl) (by decide) (by omega) (by omega) (fun hh8 ehh8 => ?_)
  have ghh8 : Str t14 r14 hh8 := by rw [ehh8]; exact ghh7.setA rfl
  have hC : Ch 70 2496 2497 [u, d, 672, 673, 674, 675, 676] h hh8 := by
    rw [ehh8]
    exact hC.sgn (by decide) hd (inC inS)
  have VU : Nv 70 2496 2497 hh8 u (p1 * q2 * p2.sign) := by
    rw [ehh8]
    exact VU.other (by decide) hd hu ud
  have VD : Nv 70 2496 2497 hh8 d (q1 * (p2.natAbs : Int)) := by
    rw [ehh8]
    refine nv_resign VD (by decide) hd ?_ ?_
    · rw [Int.natAbs_mul, Int.natAbs_mul, Int.natAbs_natCast]
    · rw [Int.sign_mul, sq1, Int.one_mul]
      have := sgn3 (p2.natAbs : Int)
      omega
  refine hd_aload pkX14_divideFraction rfl rfl (Int.natCast_nonneg _) ?_
  refine hd_iload pkX14_divideFraction rfl rfl ?_
  refine hd_iload pkX14_divideFraction rfl rfl ?_
  have hq : 0 < q1 * (p2.natAbs : Int) := Int.mul_pos hq1 (by omega)
  have s1 : ((p1 * q2 * p2.sign).natAbs : Int) < PW (m1 + m2) := by
    rw [sg_one h2]
    exact PW_mul b1 b4
  have s2 : ((q1 * (p2.natAbs : Int)).natAbs : Int) < PW (m1 + m2) := PW_mul b2 (by rw [Int.natAbs_natCast]; exact b3)
  have m0 : 1 ≤ m1 + m2 := by
    by_cases w9 : 1 ≤ m1 + m2
    · exact w9
    · have e : m1 = 0 := by omega
      rw [e] at b2
      have : PW 0 = 1 := rfl
      omega
  refine hd_callV pkX14_divideFraction rfl (q := (KX14_reduce, yX14_reduce, 14, 2, 0)) rfl rfl rfl (As := [(0, u), (0, d)]) (rest := []) (c := 2495) rfl rfl (Nat.le_of_ble_eq_true rfl) (ghh8.cell 0 rfl).1 (ghh8.cell 0 rfl).2.1 (h_X14_reduce (m := m1 + m2) hu hu2 hd hd2 ud (nmc un672 (nmc un674 (nmc un675 (nm1 un676)))) (nmc dn672 (nmc dn674 (nmc dn675 (nm1 dn676)))) VU.1 VU.2.1 VD.1 (nv_vl VD hq) (nv_su VU) hq s1 (PW_q hq s2) (by omega) (by omega) ghh8) (hd_bV (fun hc9 pr => ?_))
  have ghc9 : Str t14 r14 hc9 := ghh8.only pr.1.1 (by decide)
  have hC := hC.trans (pr.1.mono (allc inS (allc (inC inS) (allc (inC (inC inS)) (allc (inC (inC (inC (inC inS)))) (allc (inC (inC (inC (inC (inC inS))))) (all1 (inC (inC (inC (inC (inC (inC inS)))))))))))))
  have HR := pr_reduce ⟨VU, VD, hq⟩ pr.2
  refine hd_vret pkX14_divideFraction rfl ?_
  subst eQ
  exact ⟨rfl, hC, HR.r (div_sign h2)⟩
set_option maxRecDepth 20000 in
set_option maxHeartbeats 8000000 in
theorem h_X14_told {h : MH} {u d part vu vd : Int} (hu : 0 ≤ u) (hu2 : u < 690) (hd : 0 ≤ d) (hd2 : d < 690) (NU : Num (ga h 2496) 70 u) (vU : vl (ga h 2496) 70 u = vu) (ND : Num (ga h 2496) 70 d) (vD : vl (ga h 2496) 70 d = vd) (g : Str t14 r14 h) : MCal KX14_told yX14_told 0 0 [(2, ((2495 : Nat) : Int)), (0, u), (0, d), (0, part)] h (mRL fun v h' => Ch 70 2496 2497 [672] h h' ∧ (part < 0 → v = ga h 2497 u) ∧ (0 ≤ part → v = (if part % 2 = 0 then vu else vd) / TP (part / 2).toNat % 1000000000000000000)) := by
  refine MCal.ofMW (Or.inl rfl) ⟨cp_X14, rfl⟩ (Nat.le_of_ble_eq_true rfl) ?_
  generalize eQ : (mRL fun v h' => Ch 70 2496 2497 [672] h h' ∧ (part < 0 → v = ga h 2497 u) ∧ (0 ≤ part → v = (if part % 2 = 0 then vu else vd) / TP (part / 2).toNat % 1000000000000000000) : MO → MH → Prop) = Q
  change MW KX14_told Q 0 0 (pcA pgX14_told 0) [(0, (2, ((2495 : Nat) : Int))), (1, (0, u)), (2, (0, d)), (3, (0, part))] [] h
  refine hd_locI (i := 1) rfl (fun ru => ?_)
  refine hd_locI (i := 2) rfl (fun rd => ?_)
  refine hd_locI (i := 3) rfl (fun rpart => ?_)
  refine hd_iload pkX14_told rfl rfl ?_
  refine hd_if_ge pkX14_told rfl (fun c1 => ?_) (fun c1 => ?_)
  · skip
    refine hd_aload pkX14_told rfl rfl (Int.natCast_nonneg _) ?_
    refine hd_iload pkX14_told rfl rfl ?_
    refine hd_ipush (z := 2) pkX14_told rfl ?_
    refine hd_irem pkX14_told rfl (by decide) (by have := Int.tmod_eq_emod_of_nonneg (b := 2) (show 0 ≤ part by omega); omega) ?_
    have cut16 : ∀ (xn : Int), ((xn = u ∧ part % 2 = 0) ∨ (xn = d ∧ part % 2 = 1)) → MW KX14_told Q 0 0 (pcA pgX14_told 16) [(0, (2, ((2495 : Nat) : Int))), (1, (0, u)), (2, (0, d)), (3, (0, part))] [(0, xn), (2, ((2495 : Nat) : Int))] h := by
      intro xn hxn
      obtain ⟨XV, hXV⟩ : ∃ XV : Int, XV = if part % 2 = 0 then vu else vd := ⟨_, rfl⟩
      have hx1 : 0 ≤ xn := by omega
      have hx2 : xn < 690 := by omega
      have NX : Num (ga h 2496) 70 xn := by
        rcases hxn with w | w
        · rw [w.1]
          exact NU
        · rw [w.1]
          exact ND
      have vX : vl (ga h 2496) 70 xn = XV := by
        rw [hXV]
        rcases hxn with w | w
        · rw [w.1, if_pos w.2]
          exact vU
        · rw [w.1, if_neg (by omega)]
          exact vD
      have xv0 : 0 ≤ XV := by
        rw [← vX]
        exact vl_nonneg NX
      have hC : Ch 70 2496 2497 [672] h h := Ch.refl _ _ _ _ _
      refine hd_ipush (z := 672) pkX14_told rfl ?_
      refine hd_callV pkX14_told rfl (q := (KX14_copy, yX14_copy, 14, 2, 0)) rfl rfl rfl (As := [(0, xn), (0, 672)]) (rest := []) (c := 2495) rfl rfl (Nat.le_of_ble_eq_true rfl) (g.cell 0 rfl).1 (g.cell 0 rfl).2.1 (h_X14_copy hx1 hx2 (by decide) (by decide) NX g) (hd_bV (fun hc2 p0 => ?_))
      have ghc2 : Str t14 r14 hc2 := g.only p0.1.1 (by decide)
      have hC := hC.trans (p0.1.mono (all1 inS))
      have N1 := p0.2.1
      have v1 : vl (ga hc2 2496) 70 672 = XV := p0.2.2.1.trans vX
      refine hd_ipush (z := 0) pkX14_told rfl ?_
      refine hd_istore pkX14_told rfl rfl ?_
      change MW _ _ _ _ _ [(4, (0, 0)), (0, (2, ((2495 : Nat) : Int))), (1, (0, u)), (2, (0, d)), (3, (0, part))] _ _
      have lp20 : ∀ (N20 : Nat) (k y : Int) (hl : MH), Str t14 r14 hl → (Ch 70 2496 2497 [672] h hl) → (Num (ga hl 2496) 70 672) → (vl (ga hl 2496) 70 672 = y) → (0 ≤ k ∧ k ≤ part / 2) → (y = XV / TP k.toNat) → part / 2 - k < (N20 : Int) → MW KX14_told Q 0 0 (pcA pgX14_told 20) [(0, (2, ((2495 : Nat) : Int))), (1, (0, u)), (2, (0, d)), (3, (0, part)), (4, (0, k))] [] hl := by
        intro N20
        induction N20 with
        | zero => intro k y hl g20 hC N1 v1 k0 yv hm20; exfalso; omega
        | succ N20 ih20 =>
          intro k y hl g20 hC N1 v1 k0 yv hm20
          have z1 : sz (ga hl 2496) 70 672 = ga hl 2496 47040 := rfl
          have td : Int.tdiv part 2 = part / 2 := Int.tdiv_eq_ediv_of_nonneg (by omega)
          refine hd_iload pkX14_told rfl rfl ?_
          refine hd_iload pkX14_told rfl rfl ?_
          refine hd_ipush (z := 2) pkX14_told rfl ?_
          refine hd_idiv pkX14_told rfl (by decide) (by omega) ?_
          refine hd_ic_ge pkX14_told rfl (fun c3 => ?_) (fun c3 => ?_)
          · skip
            have v1y := v1
            have N1y := N1
            refine hd_aload pkX14_told rfl rfl (Int.natCast_nonneg _) ?_
            refine hd_ipush (z := 672) pkX14_told rfl ?_
            refine hd_lpush (z := 1000000000) pkX14_told rfl ?_
            have v1o := v1
            refine hd_callV pkX14_told rfl (q := (KX14_divide, yX14_divide, 14, 2, 0)) rfl rfl rfl (As := [(0, 672), (1, 1000000000)]) (rest := []) (c := 2495) rfl rfl (Nat.le_of_ble_eq_true rfl) (g20.cell 0 rfl).1 (g20.cell 0 rfl).2.1 (h_X14_divide (by decide) (by decide) (by decide) (by decide) N1 g20) (hd_bL (fun r3 hc4 p3 => ?_))
            have ghc4 : Str t14 r14 hc4 := g20.only p3.1.1 (by decide)
            have hC := hC.trans (p3.1.mono (all1 inS))
            have N1 := p3.2.1
            have d3 := dv_of (by decide) p3.2.2.1 p3.2.2.2.1.1 p3.2.2.2.1.2
            rw [v1o] at d3
            have v1 : vl (ga hc4 2496) 70 672 = y / 1000000000 := d3.1
            refine hd_lstore pkX14_told rfl rfl ?_
            change MW _ _ _ _ _ [(4, (1, r3)), (0, (2, ((2495 : Nat) : Int))), (1, (0, u)), (2, (0, d)), (3, (0, part))] _ _
            refine hd_lload pkX14_told rfl rfl ?_
            refine hd_lpush (z := 1000000000) pkX14_told rfl ?_
            refine hd_aload pkX14_told rfl rfl (Int.natCast_nonneg _) ?_
            refine hd_ipush (z := 672) pkX14_told rfl ?_
            refine hd_lpush (z := 1000000000) pkX14_told rfl ?_
            have v1o := v1
            refine hd_callV pkX14_told rfl (q := (KX14_divide, yX14_divide, 14, 2, 0)) rfl rfl rfl (As := [(0, 672), (1, 1000000000)]) (rest := [(1, 1000000000), (1, r3)]) (c := 2495) rfl rfl (Nat.le_of_ble_eq_true rfl) (ghc4.cell 0 rfl).1 (ghc4.cell 0 rfl).2.1 (h_X14_divide (by decide) (by decide) (by decide) (by decide) N1 ghc4) (hd_bL (fun r4 hc5 p4 => ?_))
            have ghc5 : Str t14 r14 hc5 := ghc4.only p4.1.1 (by decide)
            have hC := hC.trans (p4.1.mono (all1 inS))
            have N1 := p4.2.1
            have d4 := dv_of (by decide) p4.2.2.1 p4.2.2.2.1.1 p4.2.2.2.1.2
            rw [v1o] at d4
            have v1 : vl (ga hc5 2496) 70 672 = y / 1000000000 / 1000000000 := d4.1
            refine hd_lmul pkX14_told rfl (by omega) ?_
            refine hd_ladd pkX14_told rfl (by omega) ?_
            refine hd_lret pkX14_told rfl ?_
            subst eQ
            refine ⟨rfl, rfl, hC, fun w => by omega, fun _ => ?_⟩
            rw [← hXV]
            have e9 : XV / TP (part / 2).toNat = y := by
              by_cases w : k = part / 2
              · rw [yv, w]
              · have y0 : y = 0 := by
                  rw [← v1y]
                  exact (vl_zero N1y).mpr (by have := N1y.1; omega)
                rw [y0]
                exact TP_zero xv0 (yv.symm.trans y0) (by omega)
            rw [e9]
            show (r3 + (1000000000 * r4)) = _
            omega
          · skip
            refine hd_aload pkX14_told rfl rfl (Int.natCast_nonneg _) ?_
            refine hd_getR (n := 2496) pkX14_told rfl (g20.cell 0 rfl).1 (g20.cell 0 rfl).2.1 (g20.ref 0 rfl) ?_
            refine hd_ipush (z := 47040) pkX14_told rfl ?_
            refine hd_iald (n := 48300) pkX14_told rfl (g20.cell 1 rfl) (by omega) (by omega) (fun v6 ev6 rv6 => ?_)
            refine hd_if_le pkX14_told rfl (fun c7 => ?_) (fun c7 => ?_)
            · skip
              have v1y := v1
              have N1y := N1
              refine hd_aload pkX14_told rfl rfl (Int.natCast_nonneg _) ?_
              refine hd_ipush (z := 672) pkX14_told rfl ?_
              refine hd_lpush (z := 1000000000) pkX14_told rfl ?_
              have v1o := v1
              refine hd_callV pkX14_told rfl (q := (KX14_divide, yX14_divide, 14, 2, 0)) rfl rfl rfl (As := [(0, 672), (1, 1000000000)]) (rest := []) (c := 2495) rfl rfl (Nat.le_of_ble_eq_true rfl) (g20.cell 0 rfl).1 (g20.cell 0 rfl).2.1 (h_X14_divide (by decide) (by decide) (by decide) (by decide) N1 g20) (hd_bL (fun r3 hc8 p3 => ?_))
              have ghc8 : Str t14 r14 hc8 := g20.only p3.1.1 (by decide)
              have hC := hC.trans (p3.1.mono (all1 inS))
              have N1 := p3.2.1
              have d3 := dv_of (by decide) p3.2.2.1 p3.2.2.2.1.1 p3.2.2.2.1.2
              rw [v1o] at d3
              have v1 : vl (ga hc8 2496) 70 672 = y / 1000000000 := d3.1
              refine hd_lstore pkX14_told rfl rfl ?_
              change MW _ _ _ _ _ [(4, (1, r3)), (0, (2, ((2495 : Nat) : Int))), (1, (0, u)), (2, (0, d)), (3, (0, part))] _ _
              refine hd_lload pkX14_told rfl rfl ?_
              refine hd_lpush (z := 1000000000) pkX14_told rfl ?_
              refine hd_aload pkX14_told rfl rfl (Int.natCast_nonneg _) ?_
              refine hd_ipush (z := 672) pkX14_told rfl ?_
              refine hd_lpush (z := 1000000000) pkX14_told rfl ?_
              have v1o := v1
              refine hd_callV pkX14_told rfl (q := (KX14_divide, yX14_divide, 14, 2, 0)) rfl rfl rfl (As := [(0, 672), (1, 1000000000)]) (rest := [(1, 1000000000), (1, r3)]) (c := 2495) rfl rfl (Nat.le_of_ble_eq_true rfl) (ghc8.cell 0 rfl).1 (ghc8.cell 0 rfl).2.1 (h_X14_divide (by decide) (by decide) (by decide) (by decide) N1 ghc8) (hd_bL (fun r4 hc9 p4 => ?_))
              have ghc9 : Str t14 r14 hc9 := ghc8.only p4.1.1 (by decide)
              have hC := hC.trans (p4.1.mono (all1 inS))
              have N1 := p4.2.1
              have d4 := dv_of (by decide) p4.2.2.1 p4.2.2.2.1.1 p4.2.2.2.1.2
              rw [v1o] at d4
              have v1 : vl (ga hc9 2496) 70 672 = y / 1000000000 / 1000000000 := d4.1
              refine hd_lmul pkX14_told rfl (by omega) ?_
              refine hd_ladd pkX14_told rfl (by omega) ?_
              refine hd_lret pkX14_told rfl ?_
              subst eQ
              refine ⟨rfl, rfl, hC, fun w => by omega, fun _ => ?_⟩
              rw [← hXV]
              have e9 : XV / TP (part / 2).toNat = y := by
                by_cases w : k = part / 2
                · rw [yv, w]
                · have y0 : y = 0 := by
                    rw [← v1y]
                    exact (vl_zero N1y).mpr (by have := N1y.1; omega)
                  rw [y0]
                  exact TP_zero xv0 (yv.symm.trans y0) (by omega)
              rw [e9]
              show (r3 + (1000000000 * r4)) = _
              omega
            · skip
              refine hd_aload pkX14_told rfl rfl (Int.natCast_nonneg _) ?_
              refine hd_ipush (z := 672) pkX14_told rfl ?_
              refine hd_lpush (z := 1000000000) pkX14_told rfl ?_
              have v1o := v1
              refine hd_callV pkX14_told rfl (q := (KX14_divide, yX14_divide, 14, 2, 0)) rfl rfl rfl (As := [(0, 672), (1, 1000000000)]) (rest := []) (c := 2495) rfl rfl (Nat.le_of_ble_eq_true rfl) (g20.cell 0 rfl).1 (g20.cell 0 rfl).2.1 (h_X14_divide (by decide) (by decide) (by decide) (by decide) N1 g20) (hd_bL (fun r1 hc10 p1 => ?_))
              have ghc10 : Str t14 r14 hc10 := g20.only p1.1.1 (by decide)
              have hC := hC.trans (p1.1.mono (all1 inS))
              have N1 := p1.2.1
              have d1 := dv_of (by decide) p1.2.2.1 p1.2.2.2.1.1 p1.2.2.2.1.2
              rw [v1o] at d1
              have v1 : vl (ga hc10 2496) 70 672 = y / 1000000000 := d1.1
              refine hd_lstore pkX14_told rfl rfl ?_
              change MW _ _ _ _ _ [(5, (1, r1)), (0, (2, ((2495 : Nat) : Int))), (1, (0, u)), (2, (0, d)), (3, (0, part)), (4, (0, k))] _ _
              refine hd_aload pkX14_told rfl rfl (Int.natCast_nonneg _) ?_
              refine hd_ipush (z := 672) pkX14_told rfl ?_
              refine hd_lpush (z := 1000000000) pkX14_told rfl ?_
              have v1o := v1
              refine hd_callV pkX14_told rfl (q := (KX14_divide, yX14_divide, 14, 2, 0)) rfl rfl rfl (As := [(0, 672), (1, 1000000000)]) (rest := []) (c := 2495) rfl rfl (Nat.le_of_ble_eq_true rfl) (ghc10.cell 0 rfl).1 (ghc10.cell 0 rfl).2.1 (h_X14_divide (by decide) (by decide) (by decide) (by decide) N1 ghc10) (hd_bL (fun r2 hc11 p2 => ?_))
              have ghc11 : Str t14 r14 hc11 := ghc10.only p2.1.1 (by decide)
              have hC := hC.trans (p2.1.mono (all1 inS))
              have N1 := p2.2.1
              have d2 := dv_of (by decide) p2.2.2.1 p2.2.2.2.1.1 p2.2.2.2.1.2
              rw [v1o] at d2
              have v1 : vl (ga hc11 2496) 70 672 = y / 1000000000 / 1000000000 := d2.1
              refine hd_lstore pkX14_told rfl rfl ?_
              change MW _ _ _ _ _ [(5, (1, r2)), (0, (2, ((2495 : Nat) : Int))), (1, (0, u)), (2, (0, d)), (3, (0, part)), (4, (0, k))] _ _
              refine hd_iinc (z := 1) pkX14_told rfl rfl (by omega) rfl ?_
              change MW _ _ _ _ _ [(4, (0, (k + 1))), (5, (1, r2)), (0, (2, ((2495 : Nat) : Int))), (1, (0, u)), (2, (0, d)), (3, (0, part))] _ _
              refine hd_goto pkX14_told rfl ?_
              refine m_sub [(0, (2, ((2495 : Nat) : Int))), (1, (0, u)), (2, (0, d)), (3, (0, part)), (4, (0, (k + 1)))] (List.forall_mem_cons.mpr ⟨rfl, List.forall_mem_cons.mpr ⟨rfl, List.forall_mem_cons.mpr ⟨rfl, List.forall_mem_cons.mpr ⟨rfl, List.forall_mem_cons.mpr ⟨rfl, fun _ h => absurd h List.not_mem_nil⟩⟩⟩⟩⟩) ?_
              refine ih20  ((k + 1)) (y / 1000000000 / 1000000000) hc11 ghc11 ?_ ?_ ?_ ?_ ?_ ?_
              · exact hC
              · exact N1
              · exact v1
              · omega
              · rw [TP_s k0.1 xv0, ← yv]
              · omega
      refine m_sub [(0, (2, ((2495 : Nat) : Int))), (1, (0, u)), (2, (0, d)), (3, (0, part)), (4, (0, 0))] (List.forall_mem_cons.mpr ⟨rfl, List.forall_mem_cons.mpr ⟨rfl, List.forall_mem_cons.mpr ⟨rfl, List.forall_mem_cons.mpr ⟨rfl, List.forall_mem_cons.mpr ⟨rfl, fun _ h => absurd h List.not_mem_nil⟩⟩⟩⟩⟩) ?_
      refine lp20 ((part / 2 - (0)) + 1).toNat (0) (XV) hc2 ghc2 ?_ ?_ ?_ ?_ ?_ ?_
      · exact hC
      · exact N1
      · exact v1
      · omega
      · exact (Int.ediv_one XV).symm
      · omega
    refine hd_if_ne pkX14_told rfl (fun c12 => ?_) (fun c12 => ?_)
    · skip
      refine hd_iload pkX14_told rfl rfl ?_
      refine cut16 (d) ?_
      · have := Int.tmod_eq_emod_of_nonneg (b := 2) (show 0 ≤ part by omega)
        omega
    · skip
      refine hd_iload pkX14_told rfl rfl ?_
      refine hd_goto pkX14_told rfl ?_
      refine cut16 (u) ?_
      · have := Int.tmod_eq_emod_of_nonneg (b := 2) (show 0 ≤ part by omega)
        omega
  · skip
    refine hd_aload pkX14_told rfl rfl (Int.natCast_nonneg _) ?_
    refine hd_getR (n := 2497) pkX14_told rfl (g.cell 0 rfl).1 (g.cell 0 rfl).2.1 (g.ref 1 rfl) ?_
    refine hd_iload pkX14_told rfl rfl ?_
    refine hd_iald (n := 690) pkX14_told rfl (g.cell 2 rfl) (by omega) (by omega) (fun v13 ev13 rv13 => ?_)
    refine hd_i2l pkX14_told rfl ?_
    refine hd_lret pkX14_told rfl ?_
    subst eQ
    exact ⟨rfl, rfl, Ch.refl _ _ _ _ _, fun _ => by assumption, fun w => by omega⟩
