set_option maxRecDepth 20000 in
set_option maxHeartbeats 8000000 in
theorem h_X14_exchange {h : MH} {a b : Int} {A : Int → Int → Rat} (ha : 0 ≤ a) (ha2 : a < 12) (hb : 0 ≤ b) (hb2 : b < 12) (tb0 : Tab 2496 2497 h A) (g : Str t14 r14 h) : MCal KX14_exchange yX14_exchange 0 0 [(2, ((2495 : Nat) : Int)), (0, a), (0, b)] h (mRV fun h' => Only [2496, 2497] h h' ∧ Tab 2496 2497 h' (exA A a b)) := by
  refine MCal.ofMW (Or.inl rfl) ⟨cp_X14, rfl⟩ (Nat.le_of_ble_eq_true rfl) ?_
  generalize eQ : (mRV fun h' => Only [2496, 2497] h h' ∧ Tab 2496 2497 h' (exA A a b) : MO → MH → Prop) = Q
  change MW KX14_exchange Q 0 0 (pcA pgX14_exchange 0) [(0, (2, ((2495 : Nat) : Int))), (1, (0, a)), (2, (0, b))] [] h
  refine hd_locI (i := 1) rfl (fun ra => ?_)
  refine hd_locI (i := 2) rfl (fun rb => ?_)
  refine hd_ipush (z := 0) pkX14_exchange rfl ?_
  refine hd_istore pkX14_exchange rfl rfl ?_
  change MW _ _ _ _ _ [(3, (0, 0)), (0, (2, ((2495 : Nat) : Int))), (1, (0, a)), (2, (0, b))] _ _
  have lp2 : ∀ (N2 : Nat) (c : Int) (hl : MH), Str t14 r14 hl → (Only [2496, 2497] h hl) → (0 ≤ c ∧ c ≤ 28) → (Tab 2496 2497 hl (exP A a b c)) → (28 : Int) - c < (N2 : Int) → MW KX14_exchange Q 0 0 (pcA pgX14_exchange 2) [(0, (2, ((2495 : Nat) : Int))), (1, (0, a)), (2, (0, b)), (3, (0, c))] [] hl := by
    intro N2
    induction N2 with
    | zero => intro c hl g2 hO c0 tb hm2; exfalso; omega
    | succ N2 ih2 =>
      intro c hl g2 hO c0 tb hm2
      refine hd_iload pkX14_exchange rfl rfl ?_
      refine hd_ipush (z := 28) pkX14_exchange rfl ?_
      refine hd_ic_ge pkX14_exchange rfl (fun c1 => ?_) (fun c1 => ?_)
      · skip
        refine hd_vret pkX14_exchange rfl ?_
        subst eQ
        exact ⟨rfl, hO, tb.exE (by omega)⟩
      · skip
        refine hd_iload pkX14_exchange rfl rfl ?_
        refine hd_iload pkX14_exchange rfl rfl ?_
        refine hd_ic_eq pkX14_exchange rfl (fun c2 => ?_) (fun c2 => ?_)
        · skip
          refine hd_vret pkX14_exchange rfl ?_
          subst eQ
          exact ⟨rfl, hO, tb.exE (by omega)⟩
        · skip
          have hC : Ch 70 2496 2497 [677, 678, (28 * a + c), (336 + (28 * a + c)), (28 * b + c), (336 + (28 * b + c))] hl hl := Ch.refl _ _ _ _ _
          obtain ⟨VA, WA, dA⟩ := (tb a c ha ha2 c0.1 (by omega)).r exP_at
          obtain ⟨VB, WB, dB⟩ := (tb b c hb hb2 c0.1 (by omega)).r exP_at
          refine hd_aload pkX14_exchange rfl rfl (Int.natCast_nonneg _) ?_
          refine hd_iload pkX14_exchange rfl rfl ?_
          refine hd_iload pkX14_exchange rfl rfl ?_
          refine hd_callS pkX14_exchange rfl (q := (KX14_cell, yX14_cell, 14, 2, 1)) rfl rfl rfl (As := [(0, a), (0, c)]) (rest := [(2, ((2495 : Nat) : Int))]) rfl rfl (Nat.le_of_ble_eq_true rfl) rfl (h_X14_cell ⟨by omega, by omega⟩ ⟨by omega, by omega⟩ g2) (hd_bI (fun w3 hc4 p5 => ?_))
          obtain ⟨p5, ehc4⟩ := p5
          replace ehc4 := ehc4.symm
          subst ehc4
          subst p5
          refine hd_ipush (z := 677) pkX14_exchange rfl ?_
          have VAo := VA
          refine hd_callV pkX14_exchange rfl (q := (KX14_copy, yX14_copy, 14, 2, 0)) rfl rfl rfl (As := [(0, (28 * a + c)), (0, 677)]) (rest := []) (c := 2495) rfl rfl (Nat.le_of_ble_eq_true rfl) (g2.cell 0 rfl).1 (g2.cell 0 rfl).2.1 (h_X14_copy (by omega) (by omega) (by omega) (by omega) VA.1 g2) (hd_bV (fun hc6 pc => ?_))
          have ghc6 : Str t14 r14 hc6 := g2.only pc.1.1 (by decide)
          have hC := hC.trans (pc.1.mono (all1 inS))
          have WA := WA.keep (by decide) pc.1 (by omega) (by simp only [List.mem_cons, List.not_mem_nil, or_false, not_or]; omega)
          have VB := VB.keep (by decide) pc.1 (by omega) (by simp only [List.mem_cons, List.not_mem_nil, or_false, not_or]; omega)
          have WB := WB.keep (by decide) pc.1 (by omega) (by simp only [List.mem_cons, List.not_mem_nil, or_false, not_or]; omega)
          have VU := nv_copy VAo pc
          refine hd_aload pkX14_exchange rfl rfl (Int.natCast_nonneg _) ?_
          refine hd_ipush (z := 336) pkX14_exchange rfl ?_
          refine hd_iload pkX14_exchange rfl rfl ?_
          refine hd_iload pkX14_exchange rfl rfl ?_
          refine hd_callS pkX14_exchange rfl (q := (KX14_cell, yX14_cell, 14, 2, 1)) rfl rfl rfl (As := [(0, a), (0, c)]) (rest := [(0, 336), (2, ((2495 : Nat) : Int))]) rfl rfl (Nat.le_of_ble_eq_true rfl) rfl (h_X14_cell ⟨by omega, by omega⟩ ⟨by omega, by omega⟩ ghc6) (hd_bI (fun w7 hc8 p9 => ?_))
          obtain ⟨p9, ehc8⟩ := p9
          replace ehc8 := ehc8.symm
          subst ehc8
          subst p9
          refine hd_iadd pkX14_exchange rfl (by omega) ?_
          refine hd_ipush (z := 678) pkX14_exchange rfl ?_
          have WAo := WA
          refine hd_callV pkX14_exchange rfl (q := (KX14_copy, yX14_copy, 14, 2, 0)) rfl rfl rfl (As := [(0, (336 + (28 * a + c))), (0, 678)]) (rest := []) (c := 2495) rfl rfl (Nat.le_of_ble_eq_true rfl) (ghc6.cell 0 rfl).1 (ghc6.cell 0 rfl).2.1 (h_X14_copy (by omega) (by omega) (by omega) (by omega) WA.1 ghc6) (hd_bV (fun hc10 pc => ?_))
          have ghc10 : Str t14 r14 hc10 := ghc6.only pc.1.1 (by decide)
          have hC := hC.trans (pc.1.mono (all1 (inC inS)))
          have VU := VU.keep (by decide) pc.1 (by omega) (by simp only [List.mem_cons, List.not_mem_nil, or_false, not_or]; omega)
          have VB := VB.keep (by decide) pc.1 (by omega) (by simp only [List.mem_cons, List.not_mem_nil, or_false, not_or]; omega)
          have WB := WB.keep (by decide) pc.1 (by omega) (by simp only [List.mem_cons, List.not_mem_nil, or_false, not_or]; omega)
          have WU := nv_copy WAo pc
          refine hd_aload pkX14_exchange rfl rfl (Int.natCast_nonneg _) ?_
          refine hd_iload pkX14_exchange rfl rfl ?_
          refine hd_iload pkX14_exchange rfl rfl ?_
          refine hd_callS pkX14_exchange rfl (q := (KX14_cell, yX14_cell, 14, 2, 1)) rfl rfl rfl (As := [(0, b), (0, c)]) (rest := [(2, ((2495 : Nat) : Int))]) rfl rfl (Nat.le_of_ble_eq_true rfl) rfl (h_X14_cell ⟨by omega, by omega⟩ ⟨by omega, by omega⟩ ghc10) (hd_bI (fun w11 hc12 p13 => ?_))
          obtain ⟨p13, ehc12⟩ := p13
          replace ehc12 := ehc12.symm
          subst ehc12
          subst p13
          refine hd_iload pkX14_exchange rfl rfl ?_
          refine hd_iload pkX14_exchange rfl rfl ?_
          refine hd_callS pkX14_exchange rfl (q := (KX14_cell, yX14_cell, 14, 2, 1)) rfl rfl rfl (As := [(0, a), (0, c)]) (rest := [(0, (28 * b + c)), (2, ((2495 : Nat) : Int))]) rfl rfl (Nat.le_of_ble_eq_true rfl) rfl (h_X14_cell ⟨by omega, by omega⟩ ⟨by omega, by omega⟩ ghc10) (hd_bI (fun w14 hc15 p16 => ?_))
          obtain ⟨p16, ehc15⟩ := p16
          replace ehc15 := ehc15.symm
          subst ehc15
          subst p16
          have VBo := VB
          refine hd_callV pkX14_exchange rfl (q := (KX14_copy, yX14_copy, 14, 2, 0)) rfl rfl rfl (As := [(0, (28 * b + c)), (0, (28 * a + c))]) (rest := []) (c := 2495) rfl rfl (Nat.le_of_ble_eq_true rfl) (ghc10.cell 0 rfl).1 (ghc10.cell 0 rfl).2.1 (h_X14_copy (by omega) (by omega) (by omega) (by omega) VB.1 ghc10) (hd_bV (fun hc17 pc => ?_))
          have ghc17 : Str t14 r14 hc17 := ghc10.only pc.1.1 (by decide)
          have hC := hC.trans (pc.1.mono (all1 (inC (inC inS))))
          have VU := VU.keep (by decide) pc.1 (by omega) (by simp only [List.mem_cons, List.not_mem_nil, or_false, not_or]; omega)
          have WU := WU.keep (by decide) pc.1 (by omega) (by simp only [List.mem_cons, List.not_mem_nil, or_false, not_or]; omega)
          have WB := WB.keep (by decide) pc.1 (by omega) (by simp only [List.mem_cons, List.not_mem_nil, or_false, not_or]; omega)
          have VX := nv_copy VBo pc
          refine hd_aload pkX14_exchange rfl rfl (Int.natCast_nonneg _) ?_
          refine hd_ipush (z := 336) pkX14_exchange rfl ?_
          refine hd_iload pkX14_exchange rfl rfl ?_
          refine hd_iload pkX14_exchange rfl rfl ?_
          refine hd_callS pkX14_exchange rfl (q := (KX14_cell, yX14_cell, 14, 2, 1)) rfl rfl rfl (As := [(0, b), (0, c)]) (rest := [(0, 336), (2, ((2495 : Nat) : Int))]) rfl rfl (Nat.le_of_ble_eq_true rfl) rfl (h_X14_cell ⟨by omega, by omega⟩ ⟨by omega, by omega⟩ ghc17) (hd_bI (fun w18 hc19 p20 => ?_))
          obtain ⟨p20, ehc19⟩ := p20
          replace ehc19 := ehc19.symm
          subst ehc19
          subst p20
          refine hd_iadd pkX14_exchange rfl (by omega) ?_
          refine hd_ipush (z := 336) pkX14_exchange rfl ?_
          refine hd_iload pkX14_exchange rfl rfl ?_
          refine hd_iload pkX14_exchange rfl rfl ?_
          refine hd_callS pkX14_exchange rfl (q := (KX14_cell, yX14_cell, 14, 2, 1)) rfl rfl rfl (As := [(0, a), (0, c)]) (rest := [(0, 336), (0, (336 + (28 * b + c))), (2, ((2495 : Nat) : Int))]) rfl rfl (Nat.le_of_ble_eq_true rfl) rfl (h_X14_cell ⟨by omega, by omega⟩ ⟨by omega, by omega⟩ ghc17) (hd_bI (fun w21 hc22 p23 => ?_))
          obtain ⟨p23, ehc22⟩ := p23
          replace ehc22 := ehc22.symm
          subst ehc22
          subst p23
          refine hd_iadd pkX14_exchange rfl (by omega) ?_
          have WBo := WB
          refine hd_callV pkX14_exchange rfl (q := (KX14_copy, yX14_copy, 14, 2, 0)) rfl rfl rfl (As := [(0, (336 + (28 * b + c))), (0, (336 + (28 * a + c)))]) (rest := []) (c := 2495) rfl rfl (Nat.le_of_ble_eq_true rfl) (ghc17.cell 0 rfl).1 (ghc17.cell 0 rfl).2.1 (h_X14_copy (by omega) (by omega) (by omega) (by omega) WB.1 ghc17) (hd_bV (fun hc24 pc => ?_))
          have ghc24 : Str t14 r14 hc24 := ghc17.only pc.1.1 (by decide)
          have hC := hC.trans (pc.1.mono (all1 (inC (inC (inC inS)))))
          have VU := VU.keep (by decide) pc.1 (by omega) (by simp only [List.mem_cons, List.not_mem_nil, or_false, not_or]; omega)
          have WU := WU.keep (by decide) pc.1 (by omega) (by simp only [List.mem_cons, List.not_mem_nil, or_false, not_or]; omega)
          have VX := VX.keep (by decide) pc.1 (by omega) (by simp only [List.mem_cons, List.not_mem_nil, or_false, not_or]; omega)
          have WX := nv_copy WBo pc
          refine hd_aload pkX14_exchange rfl rfl (Int.natCast_nonneg _) ?_
          refine hd_ipush (z := 677) pkX14_exchange rfl ?_
          refine hd_iload pkX14_exchange rfl rfl ?_
          refine hd_iload pkX14_exchange rfl rfl ?_
          refine hd_callS pkX14_exchange rfl (q := (KX14_cell, yX14_cell, 14, 2, 1)) rfl rfl rfl (As := [(0, b), (0, c)]) (rest := [(0, 677), (2, ((2495 : Nat) : Int))]) rfl rfl (Nat.le_of_ble_eq_true rfl) rfl (h_X14_cell ⟨by omega, by omega⟩ ⟨by omega, by omega⟩ ghc24) (hd_bI (fun w25 hc26 p27 => ?_))
          obtain ⟨p27, ehc26⟩ := p27
          replace ehc26 := ehc26.symm
          subst ehc26
          subst p27
          have VUo := VU
          refine hd_callV pkX14_exchange rfl (q := (KX14_copy, yX14_copy, 14, 2, 0)) rfl rfl rfl (As := [(0, 677), (0, (28 * b + c))]) (rest := []) (c := 2495) rfl rfl (Nat.le_of_ble_eq_true rfl) (ghc24.cell 0 rfl).1 (ghc24.cell 0 rfl).2.1 (h_X14_copy (by omega) (by omega) (by omega) (by omega) VU.1 ghc24) (hd_bV (fun hc28 pc => ?_))
          have ghc28 : Str t14 r14 hc28 := ghc24.only pc.1.1 (by decide)
          have hC := hC.trans (pc.1.mono (all1 (inC (inC (inC (inC inS))))))
          have WU := WU.keep (by decide) pc.1 (by omega) (by simp only [List.mem_cons, List.not_mem_nil, or_false, not_or]; omega)
          have VX := VX.keep (by decide) pc.1 (by omega) (by simp only [List.mem_cons, List.not_mem_nil, or_false, not_or]; omega)
          have WX := WX.keep (by decide) pc.1 (by omega) (by simp only [List.mem_cons, List.not_mem_nil, or_false, not_or]; omega)
          have VY := nv_copy VUo pc
          refine hd_aload pkX14_exchange rfl rfl (Int.natCast_nonneg _) ?_
          refine hd_ipush (z := 678) pkX14_exchange rfl ?_
          refine hd_ipush (z := 336) pkX14_exchange rfl ?_
          refine hd_iload pkX14_exchange rfl rfl ?_
          refine hd_iload pkX14_exchange rfl rfl ?_
          refine hd_callS pkX14_exchange rfl (q := (KX14_cell, yX14_cell, 14, 2, 1)) rfl rfl rfl (As := [(0, b), (0, c)]) (rest := [(0, 336), (0, 678), (2, ((2495 : Nat) : Int))]) rfl rfl (Nat.le_of_ble_eq_true rfl) rfl (h_X14_cell ⟨by omega, by omega⟩ ⟨by omega, by omega⟩ ghc28) (hd_bI (fun w29 hc30 p31 => ?_))
          obtain ⟨p31, ehc30⟩ := p31
          replace ehc30 := ehc30.symm
          subst ehc30
          subst p31
          refine hd_iadd pkX14_exchange rfl (by omega) ?_
          have WUo := WU
          refine hd_callV pkX14_exchange rfl (q := (KX14_copy, yX14_copy, 14, 2, 0)) rfl rfl rfl (As := [(0, 678), (0, (336 + (28 * b + c)))]) (rest := []) (c := 2495) rfl rfl (Nat.le_of_ble_eq_true rfl) (ghc28.cell 0 rfl).1 (ghc28.cell 0 rfl).2.1 (h_X14_copy (by omega) (by omega) (by omega) (by omega) WU.1 ghc28) (hd_bV (fun hc32 pc => ?_))
          have ghc32 : Str t14 r14 hc32 := ghc28.only pc.1.1 (by decide)
          have hC := hC.trans (pc.1.mono (all1 (inC (inC (inC (inC (inC inS)))))))
          have VX := VX.keep (by decide) pc.1 (by omega) (by simp only [List.mem_cons, List.not_mem_nil, or_false, not_or]; omega)
          have WX := WX.keep (by decide) pc.1 (by omega) (by simp only [List.mem_cons, List.not_mem_nil, or_false, not_or]; omega)
          have VY := VY.keep (by decide) pc.1 (by omega) (by simp only [List.mem_cons, List.not_mem_nil, or_false, not_or]; omega)
          have WY := nv_copy WUo pc
          refine hd_iinc (z := 1) pkX14_exchange rfl rfl (by omega) rfl ?_
          change MW _ _ _ _ _ [(3, (0, (c + 1))), (0, (2, ((2495 : Nat) : Int))), (1, (0, a)), (2, (0, b))] _ _
          refine hd_goto pkX14_exchange rfl ?_
          refine m_sub [(0, (2, ((2495 : Nat) : Int))), (1, (0, a)), (2, (0, b)), (3, (0, (c + 1)))] (List.forall_mem_cons.mpr ⟨rfl, List.forall_mem_cons.mpr ⟨rfl, List.forall_mem_cons.mpr ⟨rfl, List.forall_mem_cons.mpr ⟨rfl, fun _ h => absurd h List.not_mem_nil⟩⟩⟩⟩) ?_
          refine ih2  ((c + 1)) hc32 ghc32 ?_ ?_ ?_ ?_
          · exact hO.trans hC.1
          · omega
          · exact tb.ex hC ha ha2 hb hb2 c0.1 (by omega) (by omega) ⟨VX, WX, dB⟩ ⟨VY, WY, dA⟩
          · omega
  refine m_sub [(0, (2, ((2495 : Nat) : Int))), (1, (0, a)), (2, (0, b)), (3, (0, 0))] (List.forall_mem_cons.mpr ⟨rfl, List.forall_mem_cons.mpr ⟨rfl, List.forall_mem_cons.mpr ⟨rfl, List.forall_mem_cons.mpr ⟨rfl, fun _ h => absurd h List.not_mem_nil⟩⟩⟩⟩) ?_
  refine lp2 (((28 : Int) - (0)) + 1).toNat (0) h g ?_ ?_ ?_ ?_
  · exact Only.refl _ _
  · omega
  · exact tb0.ex0
  · omega
set_option maxRecDepth 20000 in
set_option maxHeartbeats 8000000 in
theorem h_X14_grow {h : MH} {a b p q : Int} {m1 m2 : Nat} {A : Int → Int → Rat} (ha : 0 ≤ a) (ha2 : a < 12) (hb : 0 ≤ b) (hb2 : b < 28) (hq : 0 < q) (hp : -9223372036854775807 ≤ p) (tb0 : Tab 2496 2497 h A) (bA : SzQ m1 (A a b)) (bR : SzQ m2 (Rat.divInt p q)) (hm : m1 + m2 < 65) (g : Str t14 r14 h) : MCal KX14_grow yX14_grow 0 0 [(2, ((2495 : Nat) : Int)), (0, a), (0, b), (1, p), (1, q)] h (mRV fun h' => Only [2496, 2497] h h' ∧ Tab 2496 2497 h' (stA A a b (A a b + Rat.divInt p q))) := by
  refine MCal.ofMW (Or.inl rfl) ⟨cp_X14, rfl⟩ (Nat.le_of_ble_eq_true rfl) ?_
  generalize eQ : (mRV fun h' => Only [2496, 2497] h h' ∧ Tab 2496 2497 h' (stA A a b (A a b + Rat.divInt p q)) : MO → MH → Prop) = Q
  change MW KX14_grow Q 0 0 (pcA pgX14_grow 0) [(0, (2, ((2495 : Nat) : Int))), (1, (0, a)), (2, (0, b)), (3, (1, p)), (5, (1, q))] [] h
  refine hd_locI (i := 1) rfl (fun ra => ?_)
  refine hd_locI (i := 2) rfl (fun rb => ?_)
  refine hd_locL (i := 3) rfl (fun rp => ?_)
  refine hd_locL (i := 5) rfl (fun rq => ?_)
  refine hd_aload pkX14_grow rfl rfl (Int.natCast_nonneg _) ?_
  refine hd_ipush (z := 679) pkX14_grow rfl ?_
  refine hd_ipush (z := 680) pkX14_grow rfl ?_
  refine hd_lload pkX14_grow rfl rfl ?_
  refine hd_lload pkX14_grow rfl rfl ?_
  refine hd_callV pkX14_grow rfl (q := (KX14_fraction, yX14_fraction, 14, 4, 0)) rfl rfl rfl (As := [(0, 679), (0, 680), (1, p), (1, q)]) (rest := []) (c := 2495) rfl rfl (Nat.le_of_ble_eq_true rfl) (g.cell 0 rfl).1 (g.cell 0 rfl).2.1 (h_X14_fraction (by decide) (by decide) (by decide) (by decide) (by decide) (by decide) (by decide) hq hp g) (hd_bV (fun hc1 pf => ?_))
  have ghc1 : Str t14 r14 hc1 := g.only pf.1.1 (by decide)
  have hO := pf.1.1
  have tb := tb0.keep pf.1 (by decide)
  have P2 := pf.2
  have P1 := tb a b ha ha2 hb hb2
  refine hd_aload pkX14_grow rfl rfl (Int.natCast_nonneg _) ?_
  refine hd_iload pkX14_grow rfl rfl ?_
  refine hd_iload pkX14_grow rfl rfl ?_
  refine hd_callS pkX14_grow rfl (q := (KX14_cell, yX14_cell, 14, 2, 1)) rfl rfl rfl (As := [(0, a), (0, b)]) (rest := [(2, ((2495 : Nat) : Int))]) rfl rfl (Nat.le_of_ble_eq_true rfl) rfl (h_X14_cell ⟨by omega, by omega⟩ ⟨by omega, by omega⟩ ghc1) (hd_bI (fun w2 hc3 p4 => ?_))
  obtain ⟨p4, ehc3⟩ := p4
  replace ehc3 := ehc3.symm
  subst ehc3
  subst p4
  refine hd_ipush (z := 336) pkX14_grow rfl ?_
  refine hd_iload pkX14_grow rfl rfl ?_
  refine hd_iload pkX14_grow rfl rfl ?_
  refine hd_callS pkX14_grow rfl (q := (KX14_cell, yX14_cell, 14, 2, 1)) rfl rfl rfl (As := [(0, a), (0, b)]) (rest := [(0, 336), (0, (28 * a + b)), (2, ((2495 : Nat) : Int))]) rfl rfl (Nat.le_of_ble_eq_true rfl) rfl (h_X14_cell ⟨by omega, by omega⟩ ⟨by omega, by omega⟩ ghc1) (hd_bI (fun w5 hc6 p7 => ?_))
  obtain ⟨p7, ehc6⟩ := p7
  replace ehc6 := ehc6.symm
  subst ehc6
  subst p7
  refine hd_iadd pkX14_grow rfl (by omega) ?_
  refine hd_ipush (z := 679) pkX14_grow rfl ?_
  refine hd_ipush (z := 680) pkX14_grow rfl ?_
  refine hd_callV pkX14_grow rfl (q := (KX14_addFraction, yX14_addFraction, 14, 4, 0)) rfl rfl rfl (As := [(0, (28 * a + b)), (0, (336 + (28 * a + b))), (0, 679), (0, 680)]) (rest := []) (c := 2495) rfl rfl (Nat.le_of_ble_eq_true rfl) (ghc1.cell 0 rfl).1 (ghc1.cell 0 rfl).2.1 (h_X14_addFraction (m1 := m1) (m2 := m2) (by omega) (by omega) (by omega) (by omega) (by decide) (by decide) (by decide) (by decide) (by omega) (by simp only [List.mem_cons, List.not_mem_nil, or_false, not_or]; omega) (by simp only [List.mem_cons, List.not_mem_nil, or_false, not_or]; omega) (by decide) (by decide) P1 P2 bA.1 bA.2 bR.1 bR.2 (by omega) ghc1) (hd_bV (fun hc8 pa => ?_))
  have ghc8 : Str t14 r14 hc8 := ghc1.only pa.1.1 (by decide)
  have hO := hO.trans pa.1.1
  have tb := tb.set pa.1 (by decide) ha ha2 hb hb2 (pa.2.r (rat_add _ _))
  refine hd_vret pkX14_grow rfl ?_
  subst eQ
  exact ⟨rfl, hO, tb⟩
set_option maxRecDepth 20000 in
set_option maxHeartbeats 8000000 in
theorem h_X14_takeRow {h : MH} {a c rk : Int} {m : Nat} {A : Int → Int → Rat} (ha : 0 ≤ a) (ha2 : a < 12) (hc : 0 ≤ c) (hc2 : c < 28) (hr : 0 ≤ rk) (hr2 : rk < 12) (rka : rk ≠ a) (hR : ga h 2495 18 = rk) (tb0 : Tab 2496 2497 h A) (ba : ∀ k : Int, c ≤ k → k < 28 → SzQ m (A a k)) (bb : ∀ k : Int, c ≤ k → k < 28 → SzQ m (A rk k)) (hm : m ≤ 21) (g : Str t14 r14 h) : MCal KX14_takeRow yX14_takeRow 0 0 [(2, ((2495 : Nat) : Int)), (0, a), (0, c)] h (mRV fun h' => Only [2496, 2497] h h' ∧ Tab 2496 2497 h' (tkA A a rk c)) := by
  refine MCal.ofMW (Or.inl rfl) ⟨cp_X14, rfl⟩ (Nat.le_of_ble_eq_true rfl) ?_
  generalize eQ : (mRV fun h' => Only [2496, 2497] h h' ∧ Tab 2496 2497 h' (tkA A a rk c) : MO → MH → Prop) = Q
  change MW KX14_takeRow Q 0 0 (pcA pgX14_takeRow 0) [(0, (2, ((2495 : Nat) : Int))), (1, (0, a)), (2, (0, c))] [] h
  refine hd_locI (i := 1) rfl (fun ra => ?_)
  refine hd_locI (i := 2) rfl (fun rc => ?_)
  refine hd_aload pkX14_takeRow rfl rfl (Int.natCast_nonneg _) ?_
  refine hd_iload pkX14_takeRow rfl rfl ?_
  refine hd_iload pkX14_takeRow rfl rfl ?_
  refine hd_callS pkX14_takeRow rfl (q := (KX14_cell, yX14_cell, 14, 2, 1)) rfl rfl rfl (As := [(0, a), (0, c)]) (rest := [(2, ((2495 : Nat) : Int))]) rfl rfl (Nat.le_of_ble_eq_true rfl) rfl (h_X14_cell ⟨by omega, by omega⟩ ⟨by omega, by omega⟩ g) (hd_bI (fun w1 hc2 p3 => ?_))
  obtain ⟨p3, ehc2⟩ := p3
  replace ehc2 := ehc2.symm
  subst ehc2
  subst p3
  refine hd_ipush (z := 683) pkX14_takeRow rfl ?_
  have hO : Only [2496, 2497] h h := Only.refl _ _
  have tb := tb0
  obtain ⟨V0, W0, d0⟩ := tb a c ha ha2 hc hc2
  refine hd_callV pkX14_takeRow rfl (q := (KX14_copy, yX14_copy, 14, 2, 0)) rfl rfl rfl (As := [(0, (28 * a + c)), (0, 683)]) (rest := []) (c := 2495) rfl rfl (Nat.le_of_ble_eq_true rfl) (g.cell 0 rfl).1 (g.cell 0 rfl).2.1 (h_X14_copy (by omega) (by omega) (by decide) (by decide) V0.1 g) (hd_bV (fun hc4 pc => ?_))
  have ghc4 : Str t14 r14 hc4 := g.only pc.1.1 (by decide)
  have hO := hO.trans pc.1.1
  have tb := tb.keep pc.1 (by decide)
  have W0 := W0.keep (by decide) pc.1 (by omega) (nm1 (by omega))
  have VL := nv_copy V0 pc
  refine hd_aload pkX14_takeRow rfl rfl (Int.natCast_nonneg _) ?_
  refine hd_ipush (z := 336) pkX14_takeRow rfl ?_
  refine hd_iload pkX14_takeRow rfl rfl ?_
  refine hd_iload pkX14_takeRow rfl rfl ?_
  refine hd_callS pkX14_takeRow rfl (q := (KX14_cell, yX14_cell, 14, 2, 1)) rfl rfl rfl (As := [(0, a), (0, c)]) (rest := [(0, 336), (2, ((2495 : Nat) : Int))]) rfl rfl (Nat.le_of_ble_eq_true rfl) rfl (h_X14_cell ⟨by omega, by omega⟩ ⟨by omega, by omega⟩ ghc4) (hd_bI (fun w5 hc6 p7 => ?_))
  obtain ⟨p7, ehc6⟩ := p7
  replace ehc6 := ehc6.symm
  subst ehc6
  subst p7
  refine hd_iadd pkX14_takeRow rfl (by omega) ?_
  refine hd_ipush (z := 684) pkX14_takeRow rfl ?_
  refine hd_callV pkX14_takeRow rfl (q := (KX14_copy, yX14_copy, 14, 2, 0)) rfl rfl rfl (As := [(0, (336 + (28 * a + c))), (0, 684)]) (rest := []) (c := 2495) rfl rfl (Nat.le_of_ble_eq_true rfl) (ghc4.cell 0 rfl).1 (ghc4.cell 0 rfl).2.1 (h_X14_copy (by omega) (by omega) (by decide) (by decide) W0.1 ghc4) (hd_bV (fun hc8 pc => ?_))
  have ghc8 : Str t14 r14 hc8 := ghc4.only pc.1.1 (by decide)
  have hO := hO.trans pc.1.1
  have tb := tb.keep pc.1 (by decide)
  have VL := VL.keep (by decide) pc.1 (by decide) (by decide)
  have VL : Hr 70 2496 2497 hc8 683 684 (A a c) := ⟨VL, nv_copy W0 pc, d0⟩
  refine hd_iload pkX14_takeRow rfl rfl ?_
  refine hd_istore pkX14_takeRow rfl rfl ?_
  change MW _ _ _ _ _ [(3, (0, c)), (0, (2, ((2495 : Nat) : Int))), (1, (0, a)), (2, (0, c))] _ _
  have lp16 : ∀ (N16 : Nat) (i : Int) (hl : MH), Str t14 r14 hl → (Only [2496, 2497] h hl) → (c ≤ i ∧ i ≤ 28) → (Tab 2496 2497 hl (tkP A a rk c i)) → (Hr 70 2496 2497 hl 683 684 (A a c)) → (28 : Int) - i < (N16 : Int) → MW KX14_takeRow Q 0 0 (pcA pgX14_takeRow 16) [(0, (2, ((2495 : Nat) : Int))), (1, (0, a)), (2, (0, c)), (3, (0, i))] [] hl := by
    intro N16
    induction N16 with
    | zero => intro i hl g16 hO c0 tb VL hm16; exfalso; omega
    | succ N16 ih16 =>
      intro i hl g16 hO c0 tb VL hm16
      refine hd_iload pkX14_takeRow rfl rfl ?_
      refine hd_ipush (z := 28) pkX14_takeRow rfl ?_
      refine hd_ic_ge pkX14_takeRow rfl (fun c9 => ?_) (fun c9 => ?_)
      · skip
        refine hd_vret pkX14_takeRow rfl ?_
        subst eQ
        exact ⟨rfl, hO, tb.tkE (by omega)⟩
      · skip
        obtain ⟨VA, WA, dA⟩ := (tb rk i hr hr2 (by omega) (by omega)).r (tkP_o (Or.inl rka))
        refine hd_aload pkX14_takeRow rfl rfl (Int.natCast_nonneg _) ?_
        refine hd_getR (n := 2497) pkX14_takeRow rfl (g16.cell 0 rfl).1 (g16.cell 0 rfl).2.1 (g16.ref 1 rfl) ?_
        refine hd_aload pkX14_takeRow rfl rfl (Int.natCast_nonneg _) ?_
        refine hd_getI pkX14_takeRow rfl (g16.cell 0 rfl).1 (g16.cell 0 rfl).2.1 (fun v10 ev10 rv10 => ?_)
        have qv10 : rk = v10 := by rw [ev10]; exact ((hO.ga (by decide) _).trans hR).symm
        subst qv10
        refine hd_iload pkX14_takeRow rfl rfl ?_
        refine hd_callS pkX14_takeRow rfl (q := (KX14_cell, yX14_cell, 14, 2, 1)) rfl rfl rfl (As := [(0, rk), (0, i)]) (rest := [(2, ((2497 : Nat) : Int))]) rfl rfl (Nat.le_of_ble_eq_true rfl) rfl (h_X14_cell ⟨by omega, by omega⟩ ⟨by omega, by omega⟩ g16) (hd_bI (fun w11 hc12 p13 => ?_))
        obtain ⟨p13, ehc12⟩ := p13
        replace ehc12 := ehc12.symm
        subst ehc12
        subst p13
        refine hd_iald (n := 690) pkX14_takeRow rfl (g16.cell 2 rfl) (by omega) (by omega) (fun v14 ev14 rv14 => ?_)
        have sv14 : v14 = (A rk i).num.sign := by rw [ev14]; exact VA.2.2
        have tv14 := sgn3 (A rk i).num
        refine hd_if_eq pkX14_takeRow rfl (fun c15 => ?_) (fun c15 => ?_)
        · skip
          have hz : A rk i = 0 := rat_num0 (by omega)
          refine hd_iinc (z := 1) pkX14_takeRow rfl rfl (by omega) rfl ?_
          change MW _ _ _ _ _ [(3, (0, (i + 1))), (0, (2, ((2495 : Nat) : Int))), (1, (0, a)), (2, (0, c))] _ _
          refine hd_goto pkX14_takeRow rfl ?_
          refine m_sub [(0, (2, ((2495 : Nat) : Int))), (1, (0, a)), (2, (0, c)), (3, (0, (i + 1)))] (List.forall_mem_cons.mpr ⟨rfl, List.forall_mem_cons.mpr ⟨rfl, List.forall_mem_cons.mpr ⟨rfl, List.forall_mem_cons.mpr ⟨rfl, fun _ h => absurd h List.not_mem_nil⟩⟩⟩⟩) ?_
          refine ih16  ((i + 1)) hl g16 ?_ ?_ ?_ ?_ ?_
          · exact hO
          · omega
          · first
              | exact tbN
              | exact tb.tk0 hz
          · exact VL
          · omega
        · skip
          refine hd_aload pkX14_takeRow rfl rfl (Int.natCast_nonneg _) ?_
          refine hd_aload pkX14_takeRow rfl rfl (Int.natCast_nonneg _) ?_
          refine hd_getI pkX14_takeRow rfl (g16.cell 0 rfl).1 (g16.cell 0 rfl).2.1 (fun v16 ev16 rv16 => ?_)
          have qv16 : rk = v16 := by rw [ev16]; exact ((hO.ga (by decide) _).trans hR).symm
          subst qv16
          refine hd_iload pkX14_takeRow rfl rfl ?_
          refine hd_callS pkX14_takeRow rfl (q := (KX14_cell, yX14_cell, 14, 2, 1)) rfl rfl rfl (As := [(0, rk), (0, i)]) (rest := [(2, ((2495 : Nat) : Int))]) rfl rfl (Nat.le_of_ble_eq_true rfl) rfl (h_X14_cell ⟨by omega, by omega⟩ ⟨by omega, by omega⟩ g16) (hd_bI (fun w17 hc18 p19 => ?_))
          obtain ⟨p19, ehc18⟩ := p19
          replace ehc18 := ehc18.symm
          subst ehc18
          subst p19
          refine hd_ipush (z := 677) pkX14_takeRow rfl ?_
          refine hd_callV pkX14_takeRow rfl (q := (KX14_copy, yX14_copy, 14, 2, 0)) rfl rfl rfl (As := [(0, (28 * rk + i)), (0, 677)]) (rest := []) (c := 2495) rfl rfl (Nat.le_of_ble_eq_true rfl) (g16.cell 0 rfl).1 (g16.cell 0 rfl).2.1 (h_X14_copy (by omega) (by omega) (by decide) (by decide) VA.1 g16) (hd_bV (fun hc20 pc => ?_))
          have ghc20 : Str t14 r14 hc20 := g16.only pc.1.1 (by decide)
          have hO := hO.trans pc.1.1
          have tb := tb.keep pc.1 (by decide)
          have VL := VL.keep (by decide) pc.1 (by decide) (by decide) (by decide) (by decide)
          have WA := WA.keep (by decide) pc.1 (by omega) (nm1 (by omega))
          have VU := nv_copy VA pc
          refine hd_aload pkX14_takeRow rfl rfl (Int.natCast_nonneg _) ?_
          refine hd_ipush (z := 336) pkX14_takeRow rfl ?_
          refine hd_aload pkX14_takeRow rfl rfl (Int.natCast_nonneg _) ?_
          refine hd_getI pkX14_takeRow rfl (ghc20.cell 0 rfl).1 (ghc20.cell 0 rfl).2.1 (fun v21 ev21 rv21 => ?_)
          have qv21 : rk = v21 := by rw [ev21]; exact ((hO.ga (by decide) _).trans hR).symm
          subst qv21
          refine hd_iload pkX14_takeRow rfl rfl ?_
          refine hd_callS pkX14_takeRow rfl (q := (KX14_cell, yX14_cell, 14, 2, 1)) rfl rfl rfl (As := [(0, rk), (0, i)]) (rest := [(0, 336), (2, ((2495 : Nat) : Int))]) rfl rfl (Nat.le_of_ble_eq_true rfl) rfl (h_X14_cell ⟨by omega, by omega⟩ ⟨by omega, by omega⟩ ghc20) (hd_bI (fun w22 hc23 p24 => ?_))
          obtain ⟨p24, ehc23⟩ := p24
          replace ehc23 := ehc23.symm
          subst ehc23
          subst p24
          refine hd_iadd pkX14_takeRow rfl (by omega) ?_
          refine hd_ipush (z := 678) pkX14_takeRow rfl ?_
          refine hd_callV pkX14_takeRow rfl (q := (KX14_copy, yX14_copy, 14, 2, 0)) rfl rfl rfl (As := [(0, (336 + (28 * rk + i))), (0, 678)]) (rest := []) (c := 2495) rfl rfl (Nat.le_of_ble_eq_true rfl) (ghc20.cell 0 rfl).1 (ghc20.cell 0 rfl).2.1 (h_X14_copy (by omega) (by omega) (by decide) (by decide) WA.1 ghc20) (hd_bV (fun hc25 pc => ?_))
          have ghc25 : Str t14 r14 hc25 := ghc20.only pc.1.1 (by decide)
          have hO := hO.trans pc.1.1
          have tb := tb.keep pc.1 (by decide)
          have VL := VL.keep (by decide) pc.1 (by decide) (by decide) (by decide) (by decide)
          have VU := VU.keep (by decide) pc.1 (by decide) (by decide)
          have VU : Hr 70 2496 2497 hc25 677 678 (A rk i) := ⟨VU, nv_copy WA pc, dA⟩
          refine hd_aload pkX14_takeRow rfl rfl (Int.natCast_nonneg _) ?_
          refine hd_ipush (z := 677) pkX14_takeRow rfl ?_
          refine hd_ipush (z := 678) pkX14_takeRow rfl ?_
          refine hd_ipush (z := 683) pkX14_takeRow rfl ?_
          refine hd_ipush (z := 684) pkX14_takeRow rfl ?_
          have bB := bb i c0.1 (by omega)
          have bC := ba c (Int.le_refl c) hc2
          refine hd_callV pkX14_takeRow rfl (q := (KX14_timesFraction, yX14_timesFraction, 14, 4, 0)) rfl rfl rfl (As := [(0, 677), (0, 678), (0, 683), (0, 684)]) (rest := []) (c := 2495) rfl rfl (Nat.le_of_ble_eq_true rfl) (ghc25.cell 0 rfl).1 (ghc25.cell 0 rfl).2.1 (h_X14_timesFraction (m1 := m) (m2 := m) (by decide) (by decide) (by decide) (by decide) (by decide) (by decide) (by decide) (by decide) (by decide) (by decide) (by decide) (by decide) (by decide) VU VL bB.1 bB.2 bC.1 bC.2 (by omega) ghc25) (hd_bV (fun hc26 pt => ?_))
          have ghc26 : Str t14 r14 hc26 := ghc25.only pt.1.1 (by decide)
          have hO := hO.trans pt.1.1
          have tb := tb.keep pt.1 (by decide)
          have VL := VL.keep (by decide) pt.1 (by decide) (by decide) (by decide) (by decide)
          have VU := pt.2.r (rat_mul _ _)
          refine hd_aload pkX14_takeRow rfl rfl (Int.natCast_nonneg _) ?_
          refine hd_getR (n := 2497) pkX14_takeRow rfl (ghc26.cell 0 rfl).1 (ghc26.cell 0 rfl).2.1 (ghc26.ref 1 rfl) ?_
          refine hd_ipush (z := 677) pkX14_takeRow rfl ?_
          refine hd_aload pkX14_takeRow rfl rfl (Int.natCast_nonneg _) ?_
          refine hd_getR (n := 2497) pkX14_takeRow rfl (ghc26.cell 0 rfl).1 (ghc26.cell 0 rfl).2.1 (ghc26.ref 1 rfl) ?_
          refine hd_ipush (z := 677) pkX14_takeRow rfl ?_
          refine hd_iald (n := 690) pkX14_takeRow rfl (ghc26.cell 2 rfl) (by omega) (by omega) (fun v27 ev27 rv27 => ?_)
          have e55 := ev27
          have w55 : -1 ≤ v27 ∧ v27 ≤ 1 := by rw [ev27]; exact VU.1.sg
          refine hd_ineg pkX14_takeRow rfl (by omega) ?_
          refine hd_iast (n := 690) pkX14_takeRow rfl (ghc26.cell 2 rfl) (by decide) (by omega) (by omega) (fun hh28 ehh28 => ?_)
          have ghh28 : Str t14 r14 hh28 := by rw [ehh28]; exact ghc26.setA rfl
          have CW : Ch 70 2496 2497 [677] hc26 hh28 := by rw [ehh28]; exact (Ch.refl _ _ _ _ _).sgn (by decide) (by decide) inS
          have VU : Hr 70 2496 2497 hh28 677 678 (-(A rk i * A a c)) := by rw [ehh28]; exact VU.neg e55 (by decide) (by decide) (by decide) (by decide)
          have tb := tb.keep CW (by decide)
          have hO := hO.trans CW.1
          have VL := VL.keep (by decide) CW (by decide) (by decide) (by decide) (by decide)
          refine hd_aload pkX14_takeRow rfl rfl (Int.natCast_nonneg _) ?_
          refine hd_iload pkX14_takeRow rfl rfl ?_
          refine hd_iload pkX14_takeRow rfl rfl ?_
          refine hd_callS pkX14_takeRow rfl (q := (KX14_cell, yX14_cell, 14, 2, 1)) rfl rfl rfl (As := [(0, a), (0, i)]) (rest := [(2, ((2495 : Nat) : Int))]) rfl rfl (Nat.le_of_ble_eq_true rfl) rfl (h_X14_cell ⟨by omega, by omega⟩ ⟨by omega, by omega⟩ ghh28) (hd_bI (fun w29 hc30 p31 => ?_))
          obtain ⟨p31, ehc30⟩ := p31
          replace ehc30 := ehc30.symm
          subst ehc30
          subst p31
          refine hd_ipush (z := 336) pkX14_takeRow rfl ?_
          refine hd_iload pkX14_takeRow rfl rfl ?_
          refine hd_iload pkX14_takeRow rfl rfl ?_
          refine hd_callS pkX14_takeRow rfl (q := (KX14_cell, yX14_cell, 14, 2, 1)) rfl rfl rfl (As := [(0, a), (0, i)]) (rest := [(0, 336), (0, (28 * a + i)), (2, ((2495 : Nat) : Int))]) rfl rfl (Nat.le_of_ble_eq_true rfl) rfl (h_X14_cell ⟨by omega, by omega⟩ ⟨by omega, by omega⟩ ghh28) (hd_bI (fun w32 hc33 p34 => ?_))
          obtain ⟨p34, ehc33⟩ := p34
          replace ehc33 := ehc33.symm
          subst ehc33
          subst p34
          refine hd_iadd pkX14_takeRow rfl (by omega) ?_
          refine hd_ipush (z := 677) pkX14_takeRow rfl ?_
          refine hd_ipush (z := 678) pkX14_takeRow rfl ?_
          have P1 := (tb a i ha ha2 (by omega) (by omega)).r (tkP_o (Or.inr (Int.le_refl i)))
          have bA := ba i c0.1 (by omega)
          have bD := (bB.mul bC).neg
          refine hd_callV pkX14_takeRow rfl (q := (KX14_addFraction, yX14_addFraction, 14, 4, 0)) rfl rfl rfl (As := [(0, (28 * a + i)), (0, (336 + (28 * a + i))), (0, 677), (0, 678)]) (rest := []) (c := 2495) rfl rfl (Nat.le_of_ble_eq_true rfl) (ghh28.cell 0 rfl).1 (ghh28.cell 0 rfl).2.1 (h_X14_addFraction (m1 := m) (m2 := m + m) (by omega) (by omega) (by omega) (by omega) (by decide) (by decide) (by decide) (by decide) (by omega) (by simp only [List.mem_cons, List.not_mem_nil, or_false, not_or]; omega) (by simp only [List.mem_cons, List.not_mem_nil, or_false, not_or]; omega) (by decide) (by decide) P1 VU bA.1 bA.2 bD.1 bD.2 (by omega) ghh28) (hd_bV (fun hc35 pa => ?_))
          have ghc35 : Str t14 r14 hc35 := ghh28.only pa.1.1 (by decide)
          have hO := hO.trans pa.1.1
          have VL := VL.keep (by decide) pa.1 (by decide) (by decide) (by simp only [List.mem_cons, List.not_mem_nil, or_false, not_or]; omega) (by simp only [List.mem_cons, List.not_mem_nil, or_false, not_or]; omega)
          have tbN := (tb.set pa.1 (by decide) ha ha2 (by omega) (by omega) (pa.2.r (rat_add _ _))).tk c0.1
          refine hd_iinc (z := 1) pkX14_takeRow rfl rfl (by omega) rfl ?_
          change MW _ _ _ _ _ [(3, (0, (i + 1))), (0, (2, ((2495 : Nat) : Int))), (1, (0, a)), (2, (0, c))] _ _
          refine hd_goto pkX14_takeRow rfl ?_
          refine m_sub [(0, (2, ((2495 : Nat) : Int))), (1, (0, a)), (2, (0, c)), (3, (0, (i + 1)))] (List.forall_mem_cons.mpr ⟨rfl, List.forall_mem_cons.mpr ⟨rfl, List.forall_mem_cons.mpr ⟨rfl, List.forall_mem_cons.mpr ⟨rfl, fun _ h => absurd h List.not_mem_nil⟩⟩⟩⟩) ?_
          refine ih16  ((i + 1)) hc35 ghc35 ?_ ?_ ?_ ?_ ?_
          · exact hO
          · omega
          · first
              | exact tbN
              | exact tb.tk0 hz
          · exact VL
          · omega
  refine m_sub [(0, (2, ((2495 : Nat) : Int))), (1, (0, a)), (2, (0, c)), (3, (0, c))] (List.forall_mem_cons.mpr ⟨rfl, List.forall_mem_cons.mpr ⟨rfl, List.forall_mem_cons.mpr ⟨rfl, List.forall_mem_cons.mpr ⟨rfl, fun _ h => absurd h List.not_mem_nil⟩⟩⟩⟩) ?_
  refine lp16 (((28 : Int) - (c)) + 1).toNat (c) hc8 ghc8 ?_ ?_ ?_ ?_ ?_
  · exact hO
  · omega
  · exact tb.tkS
  · exact VL
  · omega
