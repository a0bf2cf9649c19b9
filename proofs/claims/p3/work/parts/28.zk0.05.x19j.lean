set_option maxRecDepth 20000 in
set_option maxHeartbeats 8000000 in
theorem h_X19_add {h : MH} {a b x y : Int} {m : Nat} (ha : 0 ≤ a) (ha2 : a < 30) (hb : 0 ≤ b) (hb2 : b < 30) (ab : a ≠ b) (an25 : a ≠ 25) (bn25 : b ≠ 25) (VA : Nv 140 2515 2516 h a x) (VB : Nv 140 2515 2516 h b y) (hx : (x.natAbs : Int) < PW m) (hy : (y.natAbs : Int) < PW m) (hm : (m : Int) + 2 < 140) (g : Str t19 r19 h) : MCal KX19_add yX19_add 0 0 [(2, ((2514 : Nat) : Int)), (0, a), (0, b)] h (mRV fun h' => Ch 140 2515 2516 [a, 25] h h' ∧ Nv 140 2515 2516 h' a (x + y)) := by
  refine MCal.ofMW (Or.inl rfl) ⟨cp_X19, rfl⟩ (Nat.le_of_ble_eq_true rfl) ?_
  generalize eQ : (mRV fun h' => Ch 140 2515 2516 [a, 25] h h' ∧ Nv 140 2515 2516 h' a (x + y) : MO → MH → Prop) = Q
  change MW KX19_add Q 0 0 (pcA pgX19_add 0) [(0, (2, ((2514 : Nat) : Int))), (1, (0, a)), (2, (0, b))] [] h
  refine hd_locI (i := 1) rfl (fun ra => ?_)
  refine hd_locI (i := 2) rfl (fun rb => ?_)
  have hC : Ch 140 2515 2516 [a, 25] h h := Ch.refl _ _ _ _ _
  refine hd_aload pkX19_add rfl rfl (Int.natCast_nonneg _) ?_
  refine hd_getR (n := 2516) pkX19_add rfl (g.cell 0 rfl).1 (g.cell 0 rfl).2.1 (g.ref 1 rfl) ?_
  refine hd_iload pkX19_add rfl rfl ?_
  refine hd_iald (n := 30) pkX19_add rfl (g.cell 2 rfl) (by omega) (by omega) (fun v1 ev1 rv1 => ?_)
  refine hd_if_ne pkX19_add rfl (fun c2 => ?_) (fun c2 => ?_)
  · skip
    refine hd_aload pkX19_add rfl rfl (Int.natCast_nonneg _) ?_
    refine hd_getR (n := 2516) pkX19_add rfl (g.cell 0 rfl).1 (g.cell 0 rfl).2.1 (g.ref 1 rfl) ?_
    refine hd_iload pkX19_add rfl rfl ?_
    refine hd_iald (n := 30) pkX19_add rfl (g.cell 2 rfl) (by omega) (by omega) (fun v3 ev3 rv3 => ?_)
    refine hd_if_ne pkX19_add rfl (fun c4 => ?_) (fun c4 => ?_)
    · skip
      refine hd_aload pkX19_add rfl rfl (Int.natCast_nonneg _) ?_
      refine hd_getR (n := 2516) pkX19_add rfl (g.cell 0 rfl).1 (g.cell 0 rfl).2.1 (g.ref 1 rfl) ?_
      refine hd_iload pkX19_add rfl rfl ?_
      refine hd_iald (n := 30) pkX19_add rfl (g.cell 2 rfl) (by omega) (by omega) (fun v5 ev5 rv5 => ?_)
      refine hd_aload pkX19_add rfl rfl (Int.natCast_nonneg _) ?_
      refine hd_getR (n := 2516) pkX19_add rfl (g.cell 0 rfl).1 (g.cell 0 rfl).2.1 (g.ref 1 rfl) ?_
      refine hd_iload pkX19_add rfl rfl ?_
      refine hd_iald (n := 30) pkX19_add rfl (g.cell 2 rfl) (by omega) (by omega) (fun v6 ev6 rv6 => ?_)
      refine hd_ic_ne pkX19_add rfl (fun c7 => ?_) (fun c7 => ?_)
      · skip
        refine hd_aload pkX19_add rfl rfl (Int.natCast_nonneg _) ?_
        refine hd_iload pkX19_add rfl rfl ?_
        refine hd_iload pkX19_add rfl rfl ?_
        refine hd_callV pkX19_add rfl (q := (KX19_compare, yX19_compare, 19, 2, 0)) rfl rfl rfl (As := [(0, a), (0, b)]) (rest := []) (c := 2514) rfl rfl (Nat.le_of_ble_eq_true rfl) (g.cell 0 rfl).1 (g.cell 0 rfl).2.1 (h_X19_compare ha ha2 hb hb2 VA.1 VB.1 g) (hd_bI (fun w8 hc9 pc => ?_))
        obtain ⟨pc, ehc9⟩ := pc
        replace ehc9 := ehc9.symm
        subst ehc9
        rw [VA.2.1, VB.2.1] at pc
        have nx : x ≠ 0 := by have := VA.2.2; have := sgn3 x; omega
        have ny : y ≠ 0 := by have := VB.2.2; have := sgn3 y; omega
        have ne : x.sign ≠ y.sign := by have := VA.2.2; have := VB.2.2; omega
        refine hd_if_lt pkX19_add rfl (fun c10 => ?_) (fun c10 => ?_)
        · skip
          refine hd_aload pkX19_add rfl rfl (Int.natCast_nonneg _) ?_
          refine hd_iload pkX19_add rfl rfl ?_
          refine hd_ipush (z := 25) pkX19_add rfl ?_
          have VBo := VB
          refine hd_callV pkX19_add rfl (q := (KX19_copy, yX19_copy, 19, 2, 0)) rfl rfl rfl (As := [(0, b), (0, 25)]) (rest := []) (c := 2514) rfl rfl (Nat.le_of_ble_eq_true rfl) (g.cell 0 rfl).1 (g.cell 0 rfl).2.1 (h_X19_copy hb hb2 (by decide) (by decide) VB.1 g) (hd_bV (fun hc11 p4 => ?_))
          have ghc11 : Str t19 r19 hc11 := g.only p4.1.1 (by decide)
          have hC := hC.trans (p4.1.mono (all1 (inC inS)))
          have VA := VA.keep (by decide) p4.1 ha (nm1 an25)
          have V5 := nv_copy VBo p4
          refine hd_aload pkX19_add rfl rfl (Int.natCast_nonneg _) ?_
          refine hd_ipush (z := 25) pkX19_add rfl ?_
          refine hd_iload pkX19_add rfl rfl ?_
          refine hd_callV pkX19_add rfl (q := (KX19_takePlain, yX19_takePlain, 19, 2, 0)) rfl rfl rfl (As := [(0, 25), (0, a)]) (rest := []) (c := 2514) rfl rfl (Nat.le_of_ble_eq_true rfl) (ghc11.cell 0 rfl).1 (ghc11.cell 0 rfl).2.1 (h_X19_takePlain (by decide) (by decide) ha ha2 V5.1 VA.1 (by rw [VA.2.1, V5.2.1]; omega) ghc11) (hd_bV (fun hc12 p5 => ?_))
          have ghc12 : Str t19 r19 hc12 := ghc11.only p5.1.1 (by decide)
          have hC := hC.trans (p5.1.mono (all1 (inC inS)))
          have V5 := nv_take (x := y) (y := x) (p1 := p5.2.1) ny nx ne.symm (by omega) (by rw [p5.2.2.1, V5.2.1, VA.2.1]) (by rw [p5.2.2.2.2, V5.2.2])
          refine hd_aload pkX19_add rfl rfl (Int.natCast_nonneg _) ?_
          refine hd_ipush (z := 25) pkX19_add rfl ?_
          refine hd_iload pkX19_add rfl rfl ?_
          refine hd_callV pkX19_add rfl (q := (KX19_copy, yX19_copy, 19, 2, 0)) rfl rfl rfl (As := [(0, 25), (0, a)]) (rest := []) (c := 2514) rfl rfl (Nat.le_of_ble_eq_true rfl) (ghc12.cell 0 rfl).1 (ghc12.cell 0 rfl).2.1 (h_X19_copy (by decide) (by decide) ha ha2 V5.1 ghc12) (hd_bV (fun hc13 p6 => ?_))
          have ghc13 : Str t19 r19 hc13 := ghc12.only p6.1.1 (by decide)
          have hC := hC.trans (p6.1.mono (all1 inS))
          have VA := nv_copy V5 p6
          have e9 : y + x = x + y := Int.add_comm _ _
          refine hd_vret pkX19_add rfl ?_
          subst eQ
          first
            | exact ⟨rfl, hC, VA⟩
            | exact ⟨rfl, hC, by rw [e9] at VA; exact VA⟩
            | (have y0 : y = 0 := by have := VB.2.2; have := sgn3 y; omega
               exact ⟨rfl, hC, by rw [y0, Int.add_zero]; exact VA⟩)
        · skip
          refine hd_aload pkX19_add rfl rfl (Int.natCast_nonneg _) ?_
          refine hd_iload pkX19_add rfl rfl ?_
          refine hd_iload pkX19_add rfl rfl ?_
          refine hd_callV pkX19_add rfl (q := (KX19_takePlain, yX19_takePlain, 19, 2, 0)) rfl rfl rfl (As := [(0, a), (0, b)]) (rest := []) (c := 2514) rfl rfl (Nat.le_of_ble_eq_true rfl) (g.cell 0 rfl).1 (g.cell 0 rfl).2.1 (h_X19_takePlain ha ha2 hb hb2 VA.1 VB.1 (by rw [VA.2.1, VB.2.1]; omega) g) (hd_bV (fun hc14 p3 => ?_))
          have ghc14 : Str t19 r19 hc14 := g.only p3.1.1 (by decide)
          have hC := hC.trans (p3.1.mono (all1 inS))
          have VA := nv_take (p1 := p3.2.1) nx ny ne (by omega) (by rw [p3.2.2.1, VA.2.1, VB.2.1]) (by rw [p3.2.2.2.2, VA.2.2])
          refine hd_goto pkX19_add rfl ?_
          refine hd_vret pkX19_add rfl ?_
          subst eQ
          first
            | exact ⟨rfl, hC, VA⟩
            | exact ⟨rfl, hC, by rw [e9] at VA; exact VA⟩
            | (have y0 : y = 0 := by have := VB.2.2; have := sgn3 y; omega
               exact ⟨rfl, hC, by rw [y0, Int.add_zero]; exact VA⟩)
      · skip
        refine hd_aload pkX19_add rfl rfl (Int.natCast_nonneg _) ?_
        refine hd_iload pkX19_add rfl rfl ?_
        refine hd_iload pkX19_add rfl rfl ?_
        refine hd_callV pkX19_add rfl (q := (KX19_addPlain, yX19_addPlain, 19, 2, 0)) rfl rfl rfl (As := [(0, a), (0, b)]) (rest := []) (c := 2514) rfl rfl (Nat.le_of_ble_eq_true rfl) (g.cell 0 rfl).1 (g.cell 0 rfl).2.1 (h_X19_addPlain (m := (m : Int)) ha ha2 hb hb2 VA.1 VB.1 (VA.size hx) (VB.size hy) (by omega) g) (hd_bV (fun hc15 p1 => ?_))
        have ghc15 : Str t19 r19 hc15 := g.only p1.1.1 (by decide)
        have hC := hC.trans (p1.1.mono (all1 inS))
        have VA := nv_add (p1 := p1.2.1) VA VB (by have := VA.2.2; have := sgn3 x; omega) (by omega) p1.2.2.1 p1.2.2.2.2
        refine hd_goto pkX19_add rfl ?_
        refine hd_vret pkX19_add rfl ?_
        subst eQ
        first
          | exact ⟨rfl, hC, VA⟩
          | exact ⟨rfl, hC, by rw [e9] at VA; exact VA⟩
          | (have y0 : y = 0 := by have := VB.2.2; have := sgn3 y; omega
             exact ⟨rfl, hC, by rw [y0, Int.add_zero]; exact VA⟩)
    · skip
      refine hd_aload pkX19_add rfl rfl (Int.natCast_nonneg _) ?_
      refine hd_iload pkX19_add rfl rfl ?_
      refine hd_iload pkX19_add rfl rfl ?_
      have x0 : x = 0 := by have := VA.2.2; have := sgn3 x; omega
      refine hd_callV pkX19_add rfl (q := (KX19_copy, yX19_copy, 19, 2, 0)) rfl rfl rfl (As := [(0, b), (0, a)]) (rest := []) (c := 2514) rfl rfl (Nat.le_of_ble_eq_true rfl) (g.cell 0 rfl).1 (g.cell 0 rfl).2.1 (h_X19_copy hb hb2 ha ha2 VB.1 g) (hd_bV (fun hc16 p0 => ?_))
      have ghc16 : Str t19 r19 hc16 := g.only p0.1.1 (by decide)
      have hC := hC.trans (p0.1.mono (all1 inS))
      have VA := nv_copy VB p0
      have e9 : y = x + y := by omega
      refine hd_goto pkX19_add rfl ?_
      refine hd_vret pkX19_add rfl ?_
      subst eQ
      first
        | exact ⟨rfl, hC, VA⟩
        | exact ⟨rfl, hC, by rw [e9] at VA; exact VA⟩
        | (have y0 : y = 0 := by have := VB.2.2; have := sgn3 y; omega
           exact ⟨rfl, hC, by rw [y0, Int.add_zero]; exact VA⟩)
  · skip
    refine hd_vret pkX19_add rfl ?_
    subst eQ
    first
      | exact ⟨rfl, hC, VA⟩
      | exact ⟨rfl, hC, by rw [e9] at VA; exact VA⟩
      | (have y0 : y = 0 := by have := VB.2.2; have := sgn3 y; omega
         exact ⟨rfl, hC, by rw [y0, Int.add_zero]; exact VA⟩)
set_option maxRecDepth 20000 in
set_option maxHeartbeats 8000000 in
theorem h_X19_addFraction {h : MH} {u d v w p1 q1 p2 q2 : Int} {m1 m2 : Nat} (hu : 0 ≤ u) (hu2 : u < 30) (hd : 0 ≤ d) (hd2 : d < 30) (hmu : 0 ≤ v) (hmu2 : v < 30) (hmd : 0 ≤ w) (hmd2 : w < 30) (ud : u ≠ d) (un : u ∉ [21, 22, 23, 24, 25]) (dn : d ∉ [21, 22, 23, 24, 25]) (vn : v ∉ [21, 22, 23, 24, 25]) (wn : w ∉ [21, 22, 23, 24, 25]) (P1 : Pr 140 2515 2516 h u d p1 q1) (P2 : Pr 140 2515 2516 h v w p2 q2) (b1 : (p1.natAbs : Int) < PW m1) (b2 : (q1.natAbs : Int) < PW m1) (b3 : (p2.natAbs : Int) < PW m2) (b4 : (q2.natAbs : Int) < PW m2) (hm : (m1 + m2 : Int) + 5 < 140) (g : Str t19 r19 h) : MCal KX19_addFraction yX19_addFraction 0 0 [(2, ((2514 : Nat) : Int)), (0, u), (0, d), (0, v), (0, w)] h (mRV fun h' => Ch 140 2515 2516 [u, d, 21, 22, 23, 24, 25] h h' ∧ Hr 140 2515 2516 h' u d (Rat.divInt (p1 * q2 + p2 * q1) (q1 * q2))) := by
  refine MCal.ofMW (Or.inl rfl) ⟨cp_X19, rfl⟩ (Nat.le_of_ble_eq_true rfl) ?_
  generalize eQ : (mRV fun h' => Ch 140 2515 2516 [u, d, 21, 22, 23, 24, 25] h h' ∧ Hr 140 2515 2516 h' u d (Rat.divInt (p1 * q2 + p2 * q1) (q1 * q2)) : MO → MH → Prop) = Q
  change MW KX19_addFraction Q 0 0 (pcA pgX19_addFraction 0) [(0, (2, ((2514 : Nat) : Int))), (1, (0, u)), (2, (0, d)), (3, (0, v)), (4, (0, w))] [] h
  refine hd_locI (i := 1) rfl (fun ru => ?_)
  refine hd_locI (i := 2) rfl (fun rd => ?_)
  refine hd_locI (i := 3) rfl (fun rv => ?_)
  refine hd_locI (i := 4) rfl (fun rw => ?_)
  have hm9 : (m1 : Int) + m2 < 140 := by omega
  have hm8 : (m2 : Int) + m1 < 140 := by omega
  have hm7 : (m1 + m2 + 1 : Int) + 4 < 140 := by omega
  have hm6 : ((m1 + m2 : Nat) : Int) + 2 < 140 := by omega
  simp only [List.mem_cons, List.not_mem_nil, or_false, not_or] at un dn vn wn
  obtain ⟨un21, un22, un23, un24, un25⟩ := un
  obtain ⟨dn21, dn22, dn23, dn24, dn25⟩ := dn
  obtain ⟨vn21, vn22, vn23, vn24, vn25⟩ := vn
  obtain ⟨wn21, wn22, wn23, wn24, wn25⟩ := wn
  obtain ⟨VU, VD, hq1⟩ := P1
  obtain ⟨VM, VN, hq2⟩ := P2
  have hC : Ch 140 2515 2516 [u, d, 21, 22, 23, 24, 25] h h := Ch.refl _ _ _ _ _
  refine hd_aload pkX19_addFraction rfl rfl (Int.natCast_nonneg _) ?_
  refine hd_iload pkX19_addFraction rfl rfl ?_
  refine hd_iload pkX19_addFraction rfl rfl ?_
  refine hd_ipush (z := 21) pkX19_addFraction rfl ?_
  have VUo := VU
  have VNo := VN
  refine hd_callV pkX19_addFraction rfl (q := (KX19_product, yX19_product, 19, 3, 0)) rfl rfl rfl (As := [(0, u), (0, w), (0, 21)]) (rest := []) (c := 2514) rfl rfl (Nat.le_of_ble_eq_true rfl) (g.cell 0 rfl).1 (g.cell 0 rfl).2.1 (h_X19_product hu hu2 hmd hmd2 (by decide) (by decide) un21 wn21 VU.1 VN.1 (nv_szs VU VN b1 b4 hm9) VU.sg VN.sg g) (hd_bV (fun hc1 pp0 => ?_))
  have ghc1 : Str t19 r19 hc1 := g.only pp0.1.1 (by decide)
  have hC := hC.trans (pp0.1.mono (all1 (inC (inC inS))))
  have VU := VU.keep (by decide) pp0.1 hu (nm1 un21)
  have VD := VD.keep (by decide) pp0.1 hd (nm1 dn21)
  have VM := VM.keep (by decide) pp0.1 hmu (nm1 vn21)
  have VN := VN.keep (by decide) pp0.1 hmd (nm1 wn21)
  have V1 := nv_product VUo VNo pp0
  refine hd_aload pkX19_addFraction rfl rfl (Int.natCast_nonneg _) ?_
  refine hd_iload pkX19_addFraction rfl rfl ?_
  refine hd_iload pkX19_addFraction rfl rfl ?_
  refine hd_ipush (z := 22) pkX19_addFraction rfl ?_
  have VMo := VM
  have VDo := VD
  refine hd_callV pkX19_addFraction rfl (q := (KX19_product, yX19_product, 19, 3, 0)) rfl rfl rfl (As := [(0, v), (0, d), (0, 22)]) (rest := []) (c := 2514) rfl rfl (Nat.le_of_ble_eq_true rfl) (ghc1.cell 0 rfl).1 (ghc1.cell 0 rfl).2.1 (h_X19_product hmu hmu2 hd hd2 (by decide) (by decide) vn22 dn22 VM.1 VD.1 (nv_szs VM VD b3 b2 hm8) VM.sg VD.sg ghc1) (hd_bV (fun hc2 pp1 => ?_))
  have ghc2 : Str t19 r19 hc2 := ghc1.only pp1.1.1 (by decide)
  have hC := hC.trans (pp1.1.mono (all1 (inC (inC (inC inS)))))
  have VU := VU.keep (by decide) pp1.1 hu (nm1 un22)
  have VD := VD.keep (by decide) pp1.1 hd (nm1 dn22)
  have VM := VM.keep (by decide) pp1.1 hmu (nm1 vn22)
  have VN := VN.keep (by decide) pp1.1 hmd (nm1 wn22)
  have V1 := V1.keep (by decide) pp1.1 (by decide) (nm1 (by decide))
  have V2 := nv_product VMo VDo pp1
  refine hd_aload pkX19_addFraction rfl rfl (Int.natCast_nonneg _) ?_
  refine hd_ipush (z := 21) pkX19_addFraction rfl ?_
  refine hd_ipush (z := 22) pkX19_addFraction rfl ?_
  have s0 := PW_mul b3 b2
  rw [Nat.add_comm] at s0
  refine hd_callV pkX19_addFraction rfl (q := (KX19_add, yX19_add, 19, 2, 0)) rfl rfl rfl (As := [(0, 21), (0, 22)]) (rest := []) (c := 2514) rfl rfl (Nat.le_of_ble_eq_true rfl) (ghc2.cell 0 rfl).1 (ghc2.cell 0 rfl).2.1 (h_X19_add (m := m1 + m2) (by decide) (by decide) (by decide) (by decide) (by decide) (by decide) (by decide) V1 V2 (PW_mul b1 b4) s0 hm6 ghc2) (hd_bV (fun hc3 pa => ?_))
  have ghc3 : Str t19 r19 hc3 := ghc2.only pa.1.1 (by decide)
  have hC := hC.trans (pa.1.mono (allc (inC (inC inS)) (all1 (inC (inC (inC (inC (inC (inC inS)))))))))
  have VU := VU.keep (by decide) pa.1 hu (nmc un21 (nm1 un25))
  have VD := VD.keep (by decide) pa.1 hd (nmc dn21 (nm1 dn25))
  have VM := VM.keep (by decide) pa.1 hmu (nmc vn21 (nm1 vn25))
  have VN := VN.keep (by decide) pa.1 hmd (nmc wn21 (nm1 wn25))
  have V1 := pa.2
  refine hd_aload pkX19_addFraction rfl rfl (Int.natCast_nonneg _) ?_
  refine hd_iload pkX19_addFraction rfl rfl ?_
  refine hd_iload pkX19_addFraction rfl rfl ?_
  refine hd_ipush (z := 22) pkX19_addFraction rfl ?_
  have VDo := VD
  have VNo := VN
  refine hd_callV pkX19_addFraction rfl (q := (KX19_product, yX19_product, 19, 3, 0)) rfl rfl rfl (As := [(0, d), (0, w), (0, 22)]) (rest := []) (c := 2514) rfl rfl (Nat.le_of_ble_eq_true rfl) (ghc3.cell 0 rfl).1 (ghc3.cell 0 rfl).2.1 (h_X19_product hd hd2 hmd hmd2 (by decide) (by decide) dn22 wn22 VD.1 VN.1 (nv_szs VD VN b2 b4 hm9) VD.sg VN.sg ghc3) (hd_bV (fun hc4 pp3 => ?_))
  have ghc4 : Str t19 r19 hc4 := ghc3.only pp3.1.1 (by decide)
  have hC := hC.trans (pp3.1.mono (all1 (inC (inC (inC inS)))))
  have VU := VU.keep (by decide) pp3.1 hu (nm1 un22)
  have VD := VD.keep (by decide) pp3.1 hd (nm1 dn22)
  have V1 := V1.keep (by decide) pp3.1 (by decide) (nm1 (by decide))
  have V2 := nv_product VDo VNo pp3
  refine hd_aload pkX19_addFraction rfl rfl (Int.natCast_nonneg _) ?_
  refine hd_ipush (z := 21) pkX19_addFraction rfl ?_
  refine hd_iload pkX19_addFraction rfl rfl ?_
  refine hd_callV pkX19_addFraction rfl (q := (KX19_copy, yX19_copy, 19, 2, 0)) rfl rfl rfl (As := [(0, 21), (0, u)]) (rest := []) (c := 2514) rfl rfl (Nat.le_of_ble_eq_true rfl) (ghc4.cell 0 rfl).1 (ghc4.cell 0 rfl).2.1 (h_X19_copy (by decide) (by decide) hu hu2 V1.1 ghc4) (hd_bV (fun hc5 p4 => ?_))
  have ghc5 : Str t19 r19 hc5 := ghc4.only p4.1.1 (by decide)
  have hC := hC.trans (p4.1.mono (all1 inS))
  have VD := VD.keep (by decide) p4.1 hd (nm1 (Ne.symm ud))
  have V2 := V2.keep (by decide) p4.1 (by decide) (nm1 (Ne.symm un22))
  have VU := nv_copy V1 p4
  refine hd_aload pkX19_addFraction rfl rfl (Int.natCast_nonneg _) ?_
  refine hd_ipush (z := 22) pkX19_addFraction rfl ?_
  refine hd_iload pkX19_addFraction rfl rfl ?_
  refine hd_callV pkX19_addFraction rfl (q := (KX19_copy, yX19_copy, 19, 2, 0)) rfl rfl rfl (As := [(0, 22), (0, d)]) (rest := []) (c := 2514) rfl rfl (Nat.le_of_ble_eq_true rfl) (ghc5.cell 0 rfl).1 (ghc5.cell 0 rfl).2.1 (h_X19_copy (by decide) (by decide) hd hd2 V2.1 ghc5) (hd_bV (fun hc6 p5 => ?_))
  have ghc6 : Str t19 r19 hc6 := ghc5.only p5.1.1 (by decide)
  have hC := hC.trans (p5.1.mono (all1 (inC inS)))
  have VU := VU.keep (by decide) p5.1 hu (nm1 ud)
  have VD := nv_copy V2 p5
  refine hd_aload pkX19_addFraction rfl rfl (Int.natCast_nonneg _) ?_
  refine hd_iload pkX19_addFraction rfl rfl ?_
  refine hd_iload pkX19_addFraction rfl rfl ?_
  have hq : 0 < q1 * q2 := Int.mul_pos hq1 hq2
  have s1 := PW_sum (PW_mul b1 b4) s0
  have s2 := PW_up (n := m1 + m2 + 1) (PW_mul b2 b4) (Nat.le_succ _)
  refine hd_callV pkX19_addFraction rfl (q := (KX19_reduce, yX19_reduce, 19, 2, 0)) rfl rfl rfl (As := [(0, u), (0, d)]) (rest := []) (c := 2514) rfl rfl (Nat.le_of_ble_eq_true rfl) (ghc6.cell 0 rfl).1 (ghc6.cell 0 rfl).2.1 (h_X19_reduce (m := m1 + m2 + 1) hu hu2 hd hd2 ud (nmc un21 (nmc un23 (nmc un24 (nm1 un25)))) (nmc dn21 (nmc dn23 (nmc dn24 (nm1 dn25)))) VU.1 VU.2.1 VD.1 (nv_vl VD hq) (nv_su VU) hq s1 (PW_q hq s2) (by omega) (by omega) ghc6) (hd_bV (fun hc7 pr => ?_))
  have ghc7 : Str t19 r19 hc7 := ghc6.only pr.1.1 (by decide)
  have hC := hC.trans (pr.1.mono (allc inS (allc (inC inS) (allc (inC (inC inS)) (allc (inC (inC (inC (inC inS)))) (allc (inC (inC (inC (inC (inC inS))))) (all1 (inC (inC (inC (inC (inC (inC inS)))))))))))))
  have HR := pr_reduce ⟨VU, VD, hq⟩ pr.2
  refine hd_vret pkX19_addFraction rfl ?_
  subst eQ
  exact ⟨rfl, hC, HR⟩
set_option maxRecDepth 20000 in
set_option maxHeartbeats 8000000 in
theorem h_X19_told {h : MH} {u d part vu vd : Int} (hu : 0 ≤ u) (hu2 : u < 30) (hd : 0 ≤ d) (hd2 : d < 30) (NU : Num (ga h 2515) 140 u) (vU : vl (ga h 2515) 140 u = vu) (ND : Num (ga h 2515) 140 d) (vD : vl (ga h 2515) 140 d = vd) (g : Str t19 r19 h) : MCal KX19_told yX19_told 0 0 [(2, ((2514 : Nat) : Int)), (0, u), (0, d), (0, part)] h (mRL fun v h' => Ch 140 2515 2516 [21] h h' ∧ (part < 0 → v = ga h 2516 u) ∧ (0 ≤ part → v = (if part % 2 = 0 then vu else vd) / TP (part / 2).toNat % 1000000000000000000)) := by
  refine MCal.ofMW (Or.inl rfl) ⟨cp_X19, rfl⟩ (Nat.le_of_ble_eq_true rfl) ?_
  generalize eQ : (mRL fun v h' => Ch 140 2515 2516 [21] h h' ∧ (part < 0 → v = ga h 2516 u) ∧ (0 ≤ part → v = (if part % 2 = 0 then vu else vd) / TP (part / 2).toNat % 1000000000000000000) : MO → MH → Prop) = Q
  change MW KX19_told Q 0 0 (pcA pgX19_told 0) [(0, (2, ((2514 : Nat) : Int))), (1, (0, u)), (2, (0, d)), (3, (0, part))] [] h
  refine hd_locI (i := 1) rfl (fun ru => ?_)
  refine hd_locI (i := 2) rfl (fun rd => ?_)
  refine hd_locI (i := 3) rfl (fun rpart => ?_)
  refine hd_iload pkX19_told rfl rfl ?_
  refine hd_if_ge pkX19_told rfl (fun c1 => ?_) (fun c1 => ?_)
  · skip
    refine hd_aload pkX19_told rfl rfl (Int.natCast_nonneg _) ?_
    refine hd_iload pkX19_told rfl rfl ?_
    refine hd_ipush (z := 2) pkX19_told rfl ?_
    refine hd_irem pkX19_told rfl (by decide) (by have := Int.tmod_eq_emod_of_nonneg (b := 2) (show 0 ≤ part by omega); omega) ?_
    have cut16 : ∀ (xn : Int), ((xn = u ∧ part % 2 = 0) ∨ (xn = d ∧ part % 2 = 1)) → MW KX19_told Q 0 0 (pcA pgX19_told 16) [(0, (2, ((2514 : Nat) : Int))), (1, (0, u)), (2, (0, d)), (3, (0, part))] [(0, xn), (2, ((2514 : Nat) : Int))] h := by
      intro xn hxn
      obtain ⟨XV, hXV⟩ : ∃ XV : Int, XV = if part % 2 = 0 then vu else vd := ⟨_, rfl⟩
      have hx1 : 0 ≤ xn := by omega
      have hx2 : xn < 30 := by omega
      have NX : Num (ga h 2515) 140 xn := by
        rcases hxn with w | w
        · rw [w.1]
          exact NU
        · rw [w.1]
          exact ND
      have vX : vl (ga h 2515) 140 xn = XV := by
        rw [hXV]
        rcases hxn with w | w
        · rw [w.1, if_pos w.2]
          exact vU
        · rw [w.1, if_neg (by omega)]
          exact vD
      have xv0 : 0 ≤ XV := by
        rw [← vX]
        exact vl_nonneg NX
      have hC : Ch 140 2515 2516 [21] h h := Ch.refl _ _ _ _ _
      refine hd_ipush (z := 21) pkX19_told rfl ?_
      refine hd_callV pkX19_told rfl (q := (KX19_copy, yX19_copy, 19, 2, 0)) rfl rfl rfl (As := [(0, xn), (0, 21)]) (rest := []) (c := 2514) rfl rfl (Nat.le_of_ble_eq_true rfl) (g.cell 0 rfl).1 (g.cell 0 rfl).2.1 (h_X19_copy hx1 hx2 (by decide) (by decide) NX g) (hd_bV (fun hc2 p0 => ?_))
      have ghc2 : Str t19 r19 hc2 := g.only p0.1.1 (by decide)
      have hC := hC.trans (p0.1.mono (all1 inS))
      have N1 := p0.2.1
      have v1 : vl (ga hc2 2515) 140 21 = XV := p0.2.2.1.trans vX
      refine hd_ipush (z := 0) pkX19_told rfl ?_
      refine hd_istore pkX19_told rfl rfl ?_
      change MW _ _ _ _ _ [(4, (0, 0)), (0, (2, ((2514 : Nat) : Int))), (1, (0, u)), (2, (0, d)), (3, (0, part))] _ _
      have lp20 : ∀ (N20 : Nat) (k y : Int) (hl : MH), Str t19 r19 hl → (Ch 140 2515 2516 [21] h hl) → (Num (ga hl 2515) 140 21) → (vl (ga hl 2515) 140 21 = y) → (0 ≤ k ∧ k ≤ part / 2) → (y = XV / TP k.toNat) → part / 2 - k < (N20 : Int) → MW KX19_told Q 0 0 (pcA pgX19_told 20) [(0, (2, ((2514 : Nat) : Int))), (1, (0, u)), (2, (0, d)), (3, (0, part)), (4, (0, k))] [] hl := by
        intro N20
        induction N20 with
        | zero => intro k y hl g20 hC N1 v1 k0 yv hm20; exfalso; omega
        | succ N20 ih20 =>
          intro k y hl g20 hC N1 v1 k0 yv hm20
          have z1 : sz (ga hl 2515) 140 21 = ga hl 2515 2940 := rfl
          have td : Int.tdiv part 2 = part / 2 := Int.tdiv_eq_ediv_of_nonneg (by omega)
          refine hd_iload pkX19_told rfl rfl ?_
          refine hd_iload pkX19_told rfl rfl ?_
          refine hd_ipush (z := 2) pkX19_told rfl ?_
          refine hd_idiv pkX19_told rfl (by decide) (by omega) ?_
          refine hd_ic_ge pkX19_told rfl (fun c3 => ?_) (fun c3 => ?_)
          · skip
            have v1y := v1
            have N1y := N1
            refine hd_aload pkX19_told rfl rfl (Int.natCast_nonneg _) ?_
            refine hd_ipush (z := 21) pkX19_told rfl ?_
            refine hd_lpush (z := 1000000000) pkX19_told rfl ?_
            have v1o := v1
            refine hd_callV pkX19_told rfl (q := (KX19_divide, yX19_divide, 19, 2, 0)) rfl rfl rfl (As := [(0, 21), (1, 1000000000)]) (rest := []) (c := 2514) rfl rfl (Nat.le_of_ble_eq_true rfl) (g20.cell 0 rfl).1 (g20.cell 0 rfl).2.1 (h_X19_divide (by decide) (by decide) (by decide) (by decide) N1 g20) (hd_bL (fun r3 hc4 p3 => ?_))
            have ghc4 : Str t19 r19 hc4 := g20.only p3.1.1 (by decide)
            have hC := hC.trans (p3.1.mono (all1 inS))
            have N1 := p3.2.1
            have d3 := dv_of (by decide) p3.2.2.1 p3.2.2.2.1.1 p3.2.2.2.1.2
            rw [v1o] at d3
            have v1 : vl (ga hc4 2515) 140 21 = y / 1000000000 := d3.1
            refine hd_lstore pkX19_told rfl rfl ?_
            change MW _ _ _ _ _ [(4, (1, r3)), (0, (2, ((2514 : Nat) : Int))), (1, (0, u)), (2, (0, d)), (3, (0, part))] _ _
            refine hd_lload pkX19_told rfl rfl ?_
            refine hd_lpush (z := 1000000000) pkX19_told rfl ?_
            refine hd_aload pkX19_told rfl rfl (Int.natCast_nonneg _) ?_
            refine hd_ipush (z := 21) pkX19_told rfl ?_
            refine hd_lpush (z := 1000000000) pkX19_told rfl ?_
            have v1o := v1
            refine hd_callV pkX19_told rfl (q := (KX19_divide, yX19_divide, 19, 2, 0)) rfl rfl rfl (As := [(0, 21), (1, 1000000000)]) (rest := [(1, 1000000000), (1, r3)]) (c := 2514) rfl rfl (Nat.le_of_ble_eq_true rfl) (ghc4.cell 0 rfl).1 (ghc4.cell 0 rfl).2.1 (h_X19_divide (by decide) (by decide) (by decide) (by decide) N1 ghc4) (hd_bL (fun r4 hc5 p4 => ?_))
            have ghc5 : Str t19 r19 hc5 := ghc4.only p4.1.1 (by decide)
            have hC := hC.trans (p4.1.mono (all1 inS))
            have N1 := p4.2.1
            have d4 := dv_of (by decide) p4.2.2.1 p4.2.2.2.1.1 p4.2.2.2.1.2
            rw [v1o] at d4
            have v1 : vl (ga hc5 2515) 140 21 = y / 1000000000 / 1000000000 := d4.1
            refine hd_lmul pkX19_told rfl (by omega) ?_
            refine hd_ladd pkX19_told rfl (by omega) ?_
            refine hd_lret pkX19_told rfl ?_
            subst eQ
            refine ⟨rfl, rfl, hC, fun w => by omega, fun _ => ?_⟩
            rw [← hXV]
            have e9 : XV / TP (part / 2).toNat = y := by
              by_cases w : k = part / 2
              · rw [yv, w]
              · have y0 : y = 0 := by
                  rw [← v1y]
                  exact (vl_zero N1y).mpr (by have := N1y.1; omega)
                rw [y0]
                exact TP_zero xv0 (yv.symm.trans y0) (by omega)
            rw [e9]
            show (r3 + (1000000000 * r4)) = _
            omega
          · skip
            refine hd_aload pkX19_told rfl rfl (Int.natCast_nonneg _) ?_
            refine hd_getR (n := 2515) pkX19_told rfl (g20.cell 0 rfl).1 (g20.cell 0 rfl).2.1 (g20.ref 0 rfl) ?_
            refine hd_ipush (z := 2940) pkX19_told rfl ?_
            refine hd_iald (n := 4200) pkX19_told rfl (g20.cell 1 rfl) (by omega) (by omega) (fun v6 ev6 rv6 => ?_)
            refine hd_if_le pkX19_told rfl (fun c7 => ?_) (fun c7 => ?_)
            · skip
              have v1y := v1
              have N1y := N1
              refine hd_aload pkX19_told rfl rfl (Int.natCast_nonneg _) ?_
              refine hd_ipush (z := 21) pkX19_told rfl ?_
              refine hd_lpush (z := 1000000000) pkX19_told rfl ?_
              have v1o := v1
              refine hd_callV pkX19_told rfl (q := (KX19_divide, yX19_divide, 19, 2, 0)) rfl rfl rfl (As := [(0, 21), (1, 1000000000)]) (rest := []) (c := 2514) rfl rfl (Nat.le_of_ble_eq_true rfl) (g20.cell 0 rfl).1 (g20.cell 0 rfl).2.1 (h_X19_divide (by decide) (by decide) (by decide) (by decide) N1 g20) (hd_bL (fun r3 hc8 p3 => ?_))
              have ghc8 : Str t19 r19 hc8 := g20.only p3.1.1 (by decide)
              have hC := hC.trans (p3.1.mono (all1 inS))
              have N1 := p3.2.1
              have d3 := dv_of (by decide) p3.2.2.1 p3.2.2.2.1.1 p3.2.2.2.1.2
              rw [v1o] at d3
              have v1 : vl (ga hc8 2515) 140 21 = y / 1000000000 := d3.1
              refine hd_lstore pkX19_told rfl rfl ?_
              change MW _ _ _ _ _ [(4, (1, r3)), (0, (2, ((2514 : Nat) : Int))), (1, (0, u)), (2, (0, d)), (3, (0, part))] _ _
              refine hd_lload pkX19_told rfl rfl ?_
              refine hd_lpush (z := 1000000000) pkX19_told rfl ?_
              refine hd_aload pkX19_told rfl rfl (Int.natCast_nonneg _) ?_
              refine hd_ipush (z := 21) pkX19_told rfl ?_
              refine hd_lpush (z := 1000000000) pkX19_told rfl ?_
              have v1o := v1
              refine hd_callV pkX19_told rfl (q := (KX19_divide, yX19_divide, 19, 2, 0)) rfl rfl rfl (As := [(0, 21), (1, 1000000000)]) (rest := [(1, 1000000000), (1, r3)]) (c := 2514) rfl rfl (Nat.le_of_ble_eq_true rfl) (ghc8.cell 0 rfl).1 (ghc8.cell 0 rfl).2.1 (h_X19_divide (by decide) (by decide) (by decide) (by decide) N1 ghc8) (hd_bL (fun r4 hc9 p4 => ?_))
              have ghc9 : Str t19 r19 hc9 := ghc8.only p4.1.1 (by decide)
              have hC := hC.trans (p4.1.mono (all1 inS))
              have N1 := p4.2.1
              have d4 := dv_of (by decide) p4.2.2.1 p4.2.2.2.1.1 p4.2.2.2.1.2
              rw [v1o] at d4
              have v1 : vl (ga hc9 2515) 140 21 = y / 1000000000 / 1000000000 := d4.1
              refine hd_lmul pkX19_told rfl (by omega) ?_
              refine hd_ladd pkX19_told rfl (by omega) ?_
              refine hd_lret pkX19_told rfl ?_
              subst eQ
              refine ⟨rfl, rfl, hC, fun w => by omega, fun _ => ?_⟩
              rw [← hXV]
              have e9 : XV / TP (part / 2).toNat = y := by
                by_cases w : k = part / 2
                · rw [yv, w]
                · have y0 : y = 0 := by
                    rw [← v1y]
                    exact (vl_zero N1y).mpr (by have := N1y.1; omega)
                  rw [y0]
                  exact TP_zero xv0 (yv.symm.trans y0) (by omega)
              rw [e9]
              show (r3 + (1000000000 * r4)) = _
              omega
            · skip
              refine hd_aload pkX19_told rfl rfl (Int.natCast_nonneg _) ?_
              refine hd_ipush (z := 21) pkX19_told rfl ?_
              refine hd_lpush (z := 1000000000) pkX19_told rfl ?_
              have v1o := v1
              refine hd_callV pkX19_told rfl (q := (KX19_divide, yX19_divide, 19, 2, 0)) rfl rfl rfl (As := [(0, 21), (1, 1000000000)]) (rest := []) (c := 2514) rfl rfl (Nat.le_of_ble_eq_true rfl) (g20.cell 0 rfl).1 (g20.cell 0 rfl).2.1 (h_X19_divide (by decide) (by decide) (by decide) (by decide) N1 g20) (hd_bL (fun r1 hc10 p1 => ?_))
              have ghc10 : Str t19 r19 hc10 := g20.only p1.1.1 (by decide)
              have hC := hC.trans (p1.1.mono (all1 inS))
              have N1 := p1.2.1
              have d1 := dv_of (by decide) p1.2.2.1 p1.2.2.2.1.1 p1.2.2.2.1.2
              rw [v1o] at d1
              have v1 : vl (ga hc10 2515) 140 21 = y / 1000000000 := d1.1
              refine hd_lstore pkX19_told rfl rfl ?_
              change MW _ _ _ _ _ [(5, (1, r1)), (0, (2, ((2514 : Nat) : Int))), (1, (0, u)), (2, (0, d)), (3, (0, part)), (4, (0, k))] _ _
              refine hd_aload pkX19_told rfl rfl (Int.natCast_nonneg _) ?_
              refine hd_ipush (z := 21) pkX19_told rfl ?_
              refine hd_lpush (z := 1000000000) pkX19_told rfl ?_
              have v1o := v1
              refine hd_callV pkX19_told rfl (q := (KX19_divide, yX19_divide, 19, 2, 0)) rfl rfl rfl (As := [(0, 21), (1, 1000000000)]) (rest := []) (c := 2514) rfl rfl (Nat.le_of_ble_eq_true rfl) (ghc10.cell 0 rfl).1 (ghc10.cell 0 rfl).2.1 (h_X19_divide (by decide) (by decide) (by decide) (by decide) N1 ghc10) (hd_bL (fun r2 hc11 p2 => ?_))
              have ghc11 : Str t19 r19 hc11 := ghc10.only p2.1.1 (by decide)
              have hC := hC.trans (p2.1.mono (all1 inS))
              have N1 := p2.2.1
              have d2 := dv_of (by decide) p2.2.2.1 p2.2.2.2.1.1 p2.2.2.2.1.2
              rw [v1o] at d2
              have v1 : vl (ga hc11 2515) 140 21 = y / 1000000000 / 1000000000 := d2.1
              refine hd_lstore pkX19_told rfl rfl ?_
              change MW _ _ _ _ _ [(5, (1, r2)), (0, (2, ((2514 : Nat) : Int))), (1, (0, u)), (2, (0, d)), (3, (0, part)), (4, (0, k))] _ _
              refine hd_iinc (z := 1) pkX19_told rfl rfl (by omega) rfl ?_
              change MW _ _ _ _ _ [(4, (0, (k + 1))), (5, (1, r2)), (0, (2, ((2514 : Nat) : Int))), (1, (0, u)), (2, (0, d)), (3, (0, part))] _ _
              refine hd_goto pkX19_told rfl ?_
              refine m_sub [(0, (2, ((2514 : Nat) : Int))), (1, (0, u)), (2, (0, d)), (3, (0, part)), (4, (0, (k + 1)))] (List.forall_mem_cons.mpr ⟨rfl, List.forall_mem_cons.mpr ⟨rfl, List.forall_mem_cons.mpr ⟨rfl, List.forall_mem_cons.mpr ⟨rfl, List.forall_mem_cons.mpr ⟨rfl, fun _ h => absurd h List.not_mem_nil⟩⟩⟩⟩⟩) ?_
              refine ih20  ((k + 1)) (y / 1000000000 / 1000000000) hc11 ghc11 ?_ ?_ ?_ ?_ ?_ ?_
              · exact hC
              · exact N1
              · exact v1
              · omega
              · rw [TP_s k0.1 xv0, ← yv]
              · omega
      refine m_sub [(0, (2, ((2514 : Nat) : Int))), (1, (0, u)), (2, (0, d)), (3, (0, part)), (4, (0, 0))] (List.forall_mem_cons.mpr ⟨rfl, List.forall_mem_cons.mpr ⟨rfl, List.forall_mem_cons.mpr ⟨rfl, List.forall_mem_cons.mpr ⟨rfl, List.forall_mem_cons.mpr ⟨rfl, fun _ h => absurd h List.not_mem_nil⟩⟩⟩⟩⟩) ?_
      refine lp20 ((part / 2 - (0)) + 1).toNat (0) (XV) hc2 ghc2 ?_ ?_ ?_ ?_ ?_ ?_
      · exact hC
      · exact N1
      · exact v1
      · omega
      · exact (Int.ediv_one XV).symm
      · omega
    refine hd_if_ne pkX19_told rfl (fun c12 => ?_) (fun c12 => ?_)
    · skip
      refine hd_iload pkX19_told rfl rfl ?_
      refine cut16 (d) ?_
      · have := Int.tmod_eq_emod_of_nonneg (b := 2) (show 0 ≤ part by omega)
        omega
    · skip
      refine hd_iload pkX19_told rfl rfl ?_
      refine hd_goto pkX19_told rfl ?_
      refine cut16 (u) ?_
      · have := Int.tmod_eq_emod_of_nonneg (b := 2) (show 0 ≤ part by omega)
        omega
  · skip
    refine hd_aload pkX19_told rfl rfl (Int.natCast_nonneg _) ?_
    refine hd_getR (n := 2516) pkX19_told rfl (g.cell 0 rfl).1 (g.cell 0 rfl).2.1 (g.ref 1 rfl) ?_
    refine hd_iload pkX19_told rfl rfl ?_
    refine hd_iald (n := 30) pkX19_told rfl (g.cell 2 rfl) (by omega) (by omega) (fun v13 ev13 rv13 => ?_)
    refine hd_i2l pkX19_told rfl ?_
    refine hd_lret pkX19_told rfl ?_
    subst eQ
    exact ⟨rfl, rfl, Ch.refl _ _ _ _ _, fun _ => by assumption, fun w => by omega⟩
