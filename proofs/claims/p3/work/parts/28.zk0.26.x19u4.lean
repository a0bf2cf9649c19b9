set_option maxRecDepth 20000 in
set_option maxHeartbeats 8000000 in
theorem h_X19_addValue {h : MH} {x ld9 cn : Int} {m : Nat} (hx : -3000 ≤ x ∧ x ≤ 3000) (hl : 0 ≤ ld9 ∧ ld9 ≤ 1000000) (sn : S19 h cn) (cv : CV h cn) (ne : Nx h 15 m) (hm : 16 ≤ m ∧ m ≤ 100) (g : Str t19 r19 h) : MCal KX19_addValue yX19_addValue 0 0 [(2, ((2514 : Nat) : Int)), (0, x), (1, ld9)] h (mRV fun h' => Ch 140 2515 2516 [15, 17, 19, 21, 22, 25] h h' ∧ Nx h' 15 (m + 1)) := by
  refine MCal.ofMW (Or.inl rfl) ⟨cp_X19, rfl⟩ (Nat.le_of_ble_eq_true rfl) ?_
  generalize eQ : (mRV fun h' => Ch 140 2515 2516 [15, 17, 19, 21, 22, 25] h h' ∧ Nx h' 15 (m + 1) : MO → MH → Prop) = Q
  change MW KX19_addValue Q 0 0 (pcA pgX19_addValue 0) [(0, (2, ((2514 : Nat) : Int))), (1, (0, x)), (2, (1, ld9))] [] h
  refine hd_locI (i := 1) rfl (fun rx => ?_)
  refine hd_locL (i := 2) rfl (fun rld9 => ?_)
  have cb := sn.1.2.1
  have hC : Ch 140 2515 2516 [15, 17, 19, 21, 22, 25] h h := Ch.refl _ _ _ _ _
  obtain ⟨xE, V5, bE⟩ := ne
  have cut22 : ∀ (_ : True), MW KX19_addValue Q 0 0 (pcA pgX19_addValue 22) [(0, (2, ((2514 : Nat) : Int))), (1, (0, x)), (2, (1, ld9))] [] h := by
    intro _
    refine hd_vret pkX19_addValue rfl ?_
    subst eQ
    exact ⟨rfl, hC, xE, V5, PW_up bE (by omega)⟩
  refine hd_aload pkX19_addValue rfl rfl (Int.natCast_nonneg _) ?_
  refine hd_getI pkX19_addValue rfl (g.cell 0 rfl).1 (g.cell 0 rfl).2.1 (fun v1 ev1 rv1 => ?_)
  have qv1 : cn = v1 := by rw [ev1]; exact ((hC.1.ga (by decide) _).trans sn.1.1).symm
  subst qv1
  refine hd_if_eq pkX19_addValue rfl (fun c2 => ?_) (fun c2 => ?_)
  · skip
    refine cut22 trivial
  · skip
    refine hd_iload pkX19_addValue rfl rfl ?_
    refine hd_aload pkX19_addValue rfl rfl (Int.natCast_nonneg _) ?_
    refine hd_getR (n := 2517) pkX19_addValue rfl (g.cell 0 rfl).1 (g.cell 0 rfl).2.1 (g.ref 2 rfl) ?_
    refine hd_ipush (z := 0) pkX19_addValue rfl ?_
    refine hd_iald (n := 14) pkX19_addValue rfl (g.cell 3 rfl) (by omega) (by omega) (fun v3 ev3 rv3 => ?_)
    have a0 : v3 = ga h 2517 0 := ev3
    refine hd_ic_lt pkX19_addValue rfl (fun c4 => ?_) (fun c4 => ?_)
    · skip
      refine cut22 trivial
    · skip
      refine hd_iload pkX19_addValue rfl rfl ?_
      refine hd_aload pkX19_addValue rfl rfl (Int.natCast_nonneg _) ?_
      refine hd_getR (n := 2517) pkX19_addValue rfl (g.cell 0 rfl).1 (g.cell 0 rfl).2.1 (g.ref 2 rfl) ?_
      refine hd_aload pkX19_addValue rfl rfl (Int.natCast_nonneg _) ?_
      refine hd_getI pkX19_addValue rfl (g.cell 0 rfl).1 (g.cell 0 rfl).2.1 (fun v5 ev5 rv5 => ?_)
      have qv5 : cn = v5 := by rw [ev5]; exact ((hC.1.ga (by decide) _).trans sn.1.1).symm
      subst qv5
      refine hd_ipush (z := 1) pkX19_addValue rfl ?_
      refine hd_isub pkX19_addValue rfl (by omega) ?_
      refine hd_iald (n := 14) pkX19_addValue rfl (g.cell 3 rfl) (by omega) (by omega) (fun v6 ev6 rv6 => ?_)
      have aN : v6 = ga h 2517 (cn - 1) := ev6
      refine hd_ic_gt pkX19_addValue rfl (fun c7 => ?_) (fun c7 => ?_)
      · skip
        refine cut22 trivial
      · skip
        refine hd_lload pkX19_addValue rfl rfl ?_
        refine hd_lpush (z := 0) pkX19_addValue rfl ?_
        refine hd_lc_ne pkX19_addValue rfl (fun c8 => ?_) (fun c8 => ?_)
        · skip
          refine hd_aload pkX19_addValue rfl rfl (Int.natCast_nonneg _) ?_
          refine hd_getI pkX19_addValue rfl (g.cell 0 rfl).1 (g.cell 0 rfl).2.1 (fun v9 ev9 rv9 => ?_)
          have qv9 : cn = v9 := by rw [ev9]; exact ((hC.1.ga (by decide) _).trans sn.1.1).symm
          subst qv9
          refine hd_ipush (z := 1) pkX19_addValue rfl ?_
          refine hd_isub pkX19_addValue rfl (by omega) ?_
          refine hd_istore pkX19_addValue rfl rfl ?_
          change MW _ _ _ _ _ [(4, (0, (cn - 1))), (0, (2, ((2514 : Nat) : Int))), (1, (0, x)), (2, (1, ld9))] _ _
          have lp28 : ∀ (N28 : Nat) (k : Int), (0 ≤ k ∧ k < cn) → k < (N28 : Int) → MW KX19_addValue Q 0 0 (pcA pgX19_addValue 28) [(0, (2, ((2514 : Nat) : Int))), (1, (0, x)), (2, (1, ld9)), (4, (0, k))] [] h := by
            intro N28
            induction N28 with
            | zero => intro k k0 hm28; exfalso; omega
            | succ N28 ih28 =>
              intro k k0 hm28
              refine hd_aload pkX19_addValue rfl rfl (Int.natCast_nonneg _) ?_
              refine hd_getR (n := 2517) pkX19_addValue rfl (g.cell 0 rfl).1 (g.cell 0 rfl).2.1 (g.ref 2 rfl) ?_
              refine hd_iload pkX19_addValue rfl rfl ?_
              refine hd_iald (n := 14) pkX19_addValue rfl (g.cell 3 rfl) (by omega) (by omega) (fun v10 ev10 rv10 => ?_)
              have rax9 : 0 ≤ v10 ∧ v10 ≤ 400 := by rw [ev10, hC.1.ga (by decide)]; exact (sn.1.2.2.1 (k) (by omega) (by omega)).1
              obtain ⟨ax, qv10⟩ : ∃ x : Int, x = v10 := ⟨_, rfl⟩
              have eax : ax = ga h 2517 (k) := qv10.trans (ev10.trans (hC.1.ga (by decide) _))
              subst qv10
              refine hd_iload pkX19_addValue rfl rfl ?_
              refine hd_ic_le pkX19_addValue rfl (fun c11 => ?_) (fun c11 => ?_)
              · skip
                refine hd_aload pkX19_addValue rfl rfl (Int.natCast_nonneg _) ?_
                refine hd_iload pkX19_addValue rfl rfl ?_
                refine hd_ipush (z := 17) pkX19_addValue rfl ?_
                obtain ⟨U, ud, nd⟩ := cv
                obtain ⟨xk, VK, bK, dK⟩ := nd k (by omega) (by omega)
                have VKo := VK
                refine hd_callV pkX19_addValue rfl (q := (KX19_copy, yX19_copy, 19, 2, 0)) rfl rfl rfl (As := [(0, k), (0, 17)]) (rest := []) (c := 2514) rfl rfl (Nat.le_of_ble_eq_true rfl) (g.cell 0 rfl).1 (g.cell 0 rfl).2.1 (h_X19_copy (by omega) (by omega) (by decide) (by decide) VK.1 g) (hd_bV (fun hc12 pc => ?_))
                have ghc12 : Str t19 r19 hc12 := g.only pc.1.1 (by decide)
                have hC := hC.trans (pc.1.mono (by decide))
                have VK := VK.keep (by decide) pc.1 (by omega) (by simp only [List.mem_cons, List.not_mem_nil, or_false, not_or]; omega)
                have V5 := V5.keep (by decide) pc.1 (by decide) (by simp only [List.mem_cons, List.not_mem_nil, or_false, not_or]; omega)
                have V7 := nv_copy VKo pc
                have cut107 : ∀ (_ : True) (hj107 : MH), Str t19 r19 hj107 → (Ch 140 2515 2516 [15, 17, 19, 21, 22, 25] h hj107) → (∃ y : Int, Nv 140 2515 2516 hj107 17 y ∧ (y.natAbs : Int) < PW 15) → (Nv 140 2515 2516 hj107 15 xE) → MW KX19_addValue Q 0 0 (pcA pgX19_addValue 107) [(0, (2, ((2514 : Nat) : Int))), (1, (0, x)), (2, (1, ld9)), (4, (0, k))] [] hj107 := by
                  intro _ hj107 gc107 hC v7 V5
                  obtain ⟨y7, V7, b7⟩ := v7
                  refine hd_aload pkX19_addValue rfl rfl (Int.natCast_nonneg _) ?_
                  refine hd_ipush (z := 17) pkX19_addValue rfl ?_
                  refine hd_lload pkX19_addValue rfl rfl ?_
                  refine hd_callV pkX19_addValue rfl (q := (KX19_times, yX19_times, 19, 2, 0)) rfl rfl rfl (As := [(0, 17), (1, ld9)]) (rest := []) (c := 2514) rfl rfl (Nat.le_of_ble_eq_true rfl) (gc107.cell 0 rfl).1 (gc107.cell 0 rfl).2.1 (h_X19_times (m := 15) (n := 1) (by decide) (by decide) (by decide) (by decide) V7 (by omega) b7 (pw1 ⟨by omega, by omega⟩) (by decide) gc107) (hd_bV (fun hc13 pt => ?_))
                  have ghc13 : Str t19 r19 hc13 := gc107.only pt.1.1 (by decide)
                  have hC := hC.trans (pt.1.mono (by decide))
                  have V5 := V5.keep (by decide) pt.1 (by decide) (by simp only [List.mem_cons, List.not_mem_nil, or_false, not_or]; omega)
                  have V7 := pt.2
                  have b7 := PW_mk (k := 16) rfl b7 (pw1 (y := ld9) ⟨by omega, by omega⟩)
                  refine hd_aload pkX19_addValue rfl rfl (Int.natCast_nonneg _) ?_
                  refine hd_ipush (z := 15) pkX19_addValue rfl ?_
                  refine hd_ipush (z := 17) pkX19_addValue rfl ?_
                  refine hd_callV pkX19_addValue rfl (q := (KX19_add, yX19_add, 19, 2, 0)) rfl rfl rfl (As := [(0, 15), (0, 17)]) (rest := []) (c := 2514) rfl rfl (Nat.le_of_ble_eq_true rfl) (ghc13.cell 0 rfl).1 (ghc13.cell 0 rfl).2.1 (h_X19_add (m := m) (by decide) (by decide) (by decide) (by decide) (by decide) (by decide) (by decide) V5 V7 bE (PW_up b7 hm.1) (by omega) ghc13) (hd_bV (fun hc14 pa => ?_))
                  have ghc14 : Str t19 r19 hc14 := ghc13.only pa.1.1 (by decide)
                  have hC := hC.trans (pa.1.mono (by decide))
                  have nE : Nx hc14 15 (m + 1) := ⟨_, pa.2, PW_sum bE (PW_up b7 hm.1)⟩
                  refine hd_vret pkX19_addValue rfl ?_
                  subst eQ
                  exact ⟨rfl, hC, nE⟩
                refine hd_iload pkX19_addValue rfl rfl ?_
                refine hd_aload pkX19_addValue rfl rfl (Int.natCast_nonneg _) ?_
                refine hd_getR (n := 2517) pkX19_addValue rfl (ghc12.cell 0 rfl).1 (ghc12.cell 0 rfl).2.1 (ghc12.ref 2 rfl) ?_
                refine hd_iload pkX19_addValue rfl rfl ?_
                refine hd_iald (n := 14) pkX19_addValue rfl (ghc12.cell 3 rfl) (by omega) (by omega) (fun v15 ev15 rv15 => ?_)
                have rak9 : 0 ≤ v15 ∧ v15 ≤ 400 := by rw [ev15, hC.1.ga (by decide)]; exact (sn.1.2.2.1 (k) (by omega) (by omega)).1
                obtain ⟨ak, qv15⟩ : ∃ x : Int, x = v15 := ⟨_, rfl⟩
                have eak : ak = ga h 2517 (k) := qv15.trans (ev15.trans (hC.1.ga (by decide) _))
                subst qv15
                refine hd_ic_le pkX19_addValue rfl (fun c16 => ?_) (fun c16 => ?_)
                · skip
                  refine cut107 trivial hc12 ghc12 ?_ ?_ ?_
                  · exact hC
                  · exact ⟨_, V7, PW_up bK (by decide)⟩
                  · exact V5
                · skip
                  have kn : k + 1 < cn := by
                    have q : k ≠ cn - 1 := fun w => by
                      rw [w] at eak
                      omega
                    omega
                  refine hd_aload pkX19_addValue rfl rfl (Int.natCast_nonneg _) ?_
                  refine hd_getR (n := 2517) pkX19_addValue rfl (ghc12.cell 0 rfl).1 (ghc12.cell 0 rfl).2.1 (ghc12.ref 2 rfl) ?_
                  refine hd_iload pkX19_addValue rfl rfl ?_
                  refine hd_ipush (z := 1) pkX19_addValue rfl ?_
                  refine hd_iadd pkX19_addValue rfl (by omega) ?_
                  refine hd_iald (n := 14) pkX19_addValue rfl (ghc12.cell 3 rfl) (by omega) (by omega) (fun v17 ev17 rv17 => ?_)
                  have ran9 : 0 ≤ v17 ∧ v17 ≤ 400 := by rw [ev17, hC.1.ga (by decide)]; exact (sn.1.2.2.1 (k + 1) (by omega) (by omega)).1
                  obtain ⟨an, qv17⟩ : ∃ x : Int, x = v17 := ⟨_, rfl⟩
                  have ean : an = ga h 2517 (k + 1) := qv17.trans (ev17.trans (hC.1.ga (by decide) _))
                  subst qv17
                  refine hd_aload pkX19_addValue rfl rfl (Int.natCast_nonneg _) ?_
                  refine hd_getR (n := 2517) pkX19_addValue rfl (ghc12.cell 0 rfl).1 (ghc12.cell 0 rfl).2.1 (ghc12.ref 2 rfl) ?_
                  refine hd_iload pkX19_addValue rfl rfl ?_
                  refine hd_iald (n := 14) pkX19_addValue rfl (ghc12.cell 3 rfl) (by omega) (by omega) (fun v18 ev18 rv18 => ?_)
                  have qv18 : ak = v18 := eak.trans ((hC.1.ga (by decide) _).symm.trans ev18.symm)
                  subst qv18
                  refine hd_isub pkX19_addValue rfl (by omega) ?_
                  generalize eln : (an - ak) = ln
                  have lb9 : 1 ≤ ln ∧ ln ≤ 400 := by
                    have q := sn.1.2.2.2 k (k + 1) (by omega) (by omega) (by omega)
                    rw [← ean, ← eak] at q
                    omega
                  refine hd_i2l pkX19_addValue rfl ?_
                  refine hd_lstore pkX19_addValue rfl rfl ?_
                  change MW _ _ _ _ _ [(5, (1, ln)), (0, (2, ((2514 : Nat) : Int))), (1, (0, x)), (2, (1, ld9)), (4, (0, k))] _ _
                  refine hd_aload pkX19_addValue rfl rfl (Int.natCast_nonneg _) ?_
                  refine hd_iload pkX19_addValue rfl rfl ?_
                  refine hd_ipush (z := 19) pkX19_addValue rfl ?_
                  have VKo := VK
                  obtain ⟨xn, VN, bN, dN⟩ := nd (k + 1) (by omega) kn
                  have VN := VN.keep (by decide) hC (by omega) (by simp only [List.mem_cons, List.not_mem_nil, or_false, not_or]; omega)
                  refine hd_callV pkX19_addValue rfl (q := (KX19_copy, yX19_copy, 19, 2, 0)) rfl rfl rfl (As := [(0, k), (0, 19)]) (rest := []) (c := 2514) rfl rfl (Nat.le_of_ble_eq_true rfl) (ghc12.cell 0 rfl).1 (ghc12.cell 0 rfl).2.1 (h_X19_copy (by omega) (by omega) (by decide) (by decide) VK.1 ghc12) (hd_bV (fun hc19 pc => ?_))
                  have ghc19 : Str t19 r19 hc19 := ghc12.only pc.1.1 (by decide)
                  have hC := hC.trans (pc.1.mono (by decide))
                  have VN := VN.keep (by decide) pc.1 (by omega) (by simp only [List.mem_cons, List.not_mem_nil, or_false, not_or]; omega)
                  have V7 := V7.keep (by decide) pc.1 (by decide) (by simp only [List.mem_cons, List.not_mem_nil, or_false, not_or]; omega)
                  have V5 := V5.keep (by decide) pc.1 (by decide) (by simp only [List.mem_cons, List.not_mem_nil, or_false, not_or]; omega)
                  have V9 := nv_copy VKo pc
                  refine hd_aload pkX19_addValue rfl rfl (Int.natCast_nonneg _) ?_
                  refine hd_getR (n := 2516) pkX19_addValue rfl (ghc19.cell 0 rfl).1 (ghc19.cell 0 rfl).2.1 (ghc19.ref 1 rfl) ?_
                  refine hd_ipush (z := 19) pkX19_addValue rfl ?_
                  refine hd_aload pkX19_addValue rfl rfl (Int.natCast_nonneg _) ?_
                  refine hd_getR (n := 2516) pkX19_addValue rfl (ghc19.cell 0 rfl).1 (ghc19.cell 0 rfl).2.1 (ghc19.ref 1 rfl) ?_
                  refine hd_ipush (z := 19) pkX19_addValue rfl ?_
                  refine hd_iald (n := 30) pkX19_addValue rfl (ghc19.cell 2 rfl) (by omega) (by omega) (fun v20 ev20 rv20 => ?_)
                  have e55 := ev20
                  have w55 : -1 ≤ v20 ∧ v20 ≤ 1 := by rw [ev20]; exact V9.sg
                  refine hd_ineg pkX19_addValue rfl (by omega) ?_
                  refine hd_iast (n := 30) pkX19_addValue rfl (ghc19.cell 2 rfl) (by decide) (by omega) (by omega) (fun hh21 ehh21 => ?_)
                  have ghh21 : Str t19 r19 hh21 := by rw [ehh21]; exact ghc19.setA rfl
                  have CW : Ch 140 2515 2516 [19] hc19 hh21 := by rw [ehh21]; exact (Ch.refl _ _ _ _ _).sgn (by decide) (by decide) inS
                  have hC := hC.trans (CW.mono (by decide))
                  have VN := VN.keep (by decide) CW (by omega) (by simp only [List.mem_cons, List.not_mem_nil, or_false, not_or]; omega)
                  have V7 := V7.keep (by decide) CW (by decide) (by simp only [List.mem_cons, List.not_mem_nil, or_false, not_or]; omega)
                  have V5 := V5.keep (by decide) CW (by decide) (by simp only [List.mem_cons, List.not_mem_nil, or_false, not_or]; omega)
                  have V9 : Nv 140 2515 2516 hh21 19 (-xk) := by
                    rw [ehh21, e55]
                    exact V9.neg (by decide) (by decide)
                  refine hd_aload pkX19_addValue rfl rfl (Int.natCast_nonneg _) ?_
                  refine hd_ipush (z := 19) pkX19_addValue rfl ?_
                  refine hd_iload pkX19_addValue rfl rfl ?_
                  refine hd_ipush (z := 1) pkX19_addValue rfl ?_
                  refine hd_iadd pkX19_addValue rfl (by omega) ?_
                  refine hd_callV pkX19_addValue rfl (q := (KX19_add, yX19_add, 19, 2, 0)) rfl rfl rfl (As := [(0, 19), (0, (k + 1))]) (rest := []) (c := 2514) rfl rfl (Nat.le_of_ble_eq_true rfl) (ghh21.cell 0 rfl).1 (ghh21.cell 0 rfl).2.1 (h_X19_add (m := 12) (by decide) (by decide) (by omega) (by omega) (by omega) (by decide) (by omega) V9 VN (by rw [Int.natAbs_neg]; exact bK) bN (by decide) ghh21) (hd_bV (fun hc22 pa => ?_))
                  have ghc22 : Str t19 r19 hc22 := ghh21.only pa.1.1 (by decide)
                  have hC := hC.trans (pa.1.mono (by decide))
                  have V7 := V7.keep (by decide) pa.1 (by decide) (by simp only [List.mem_cons, List.not_mem_nil, or_false, not_or]; omega)
                  have V5 := V5.keep (by decide) pa.1 (by decide) (by simp only [List.mem_cons, List.not_mem_nil, or_false, not_or]; omega)
                  have V9 := pa.2
                  have bd : ((-xk + xn).natAbs : Int) < PW 13 := PW_sum (by rw [Int.natAbs_neg]; exact bK) bN
                  have ld : ln ∣ -xk + xn := by
                    have q := ud (k + 1) (by omega) kn
                    rw [show k + 1 - 1 = k by omega, ← ean, ← eak, eln] at q
                    exact Int.dvd_trans q (Int.dvd_add (Int.dvd_neg.mpr dK) dN)
                  generalize -xk + xn = dd at V9 bd ld
                  refine hd_aload pkX19_addValue rfl rfl (Int.natCast_nonneg _) ?_
                  refine hd_getR (n := 2516) pkX19_addValue rfl (ghc22.cell 0 rfl).1 (ghc22.cell 0 rfl).2.1 (ghc22.ref 1 rfl) ?_
                  refine hd_ipush (z := 19) pkX19_addValue rfl ?_
                  refine hd_iald (n := 30) pkX19_addValue rfl (ghc22.cell 2 rfl) (by omega) (by omega) (fun v23 ev23 rv23 => ?_)
                  obtain ⟨sg, qv23⟩ : ∃ x : Int, x = v23 := ⟨_, rfl⟩
                  have esg : sg = dd.sign := qv23.trans (ev23.trans V9.2.2)
                  subst qv23
                  refine hd_istore pkX19_addValue rfl rfl ?_
                  change MW _ _ _ _ _ [(7, (0, sg)), (5, (1, ln)), (0, (2, ((2514 : Nat) : Int))), (1, (0, x)), (2, (1, ld9)), (4, (0, k))] _ _
                  refine hd_aload pkX19_addValue rfl rfl (Int.natCast_nonneg _) ?_
                  refine hd_ipush (z := 19) pkX19_addValue rfl ?_
                  refine hd_lload pkX19_addValue rfl rfl ?_
                  refine hd_callV pkX19_addValue rfl (q := (KX19_divide, yX19_divide, 19, 2, 0)) rfl rfl rfl (As := [(0, 19), (1, ln)]) (rest := []) (c := 2514) rfl rfl (Nat.le_of_ble_eq_true rfl) (ghc22.cell 0 rfl).1 (ghc22.cell 0 rfl).2.1 (h_X19_divide (by decide) (by decide) lb9.1 (by omega) V9.1 ghc22) (hd_bL (fun lf hc24 pd => ?_))
                  have ghc24 : Str t19 r19 hc24 := ghc22.only pd.1.1 (by decide)
                  have hC := hC.trans (pd.1.mono (by decide))
                  have V7 := V7.keep (by decide) pd.1 (by decide) (by simp only [List.mem_cons, List.not_mem_nil, or_false, not_or]; omega)
                  have V5 := V5.keep (by decide) pd.1 (by decide) (by simp only [List.mem_cons, List.not_mem_nil, or_false, not_or]; omega)
                  obtain ⟨y, yb, vy⟩ := nv_exact V9 lb9.1 ld pd.2.1 pd.2.2.1 pd.2.2.2.1 (by decide)
                  refine hd_lstore pkX19_addValue rfl rfl ?_
                  change MW _ _ _ _ _ [(8, (1, lf)), (7, (0, sg)), (5, (1, ln)), (0, (2, ((2514 : Nat) : Int))), (1, (0, x)), (2, (1, ld9)), (4, (0, k))] _ _
                  refine hd_aload pkX19_addValue rfl rfl (Int.natCast_nonneg _) ?_
                  refine hd_getR (n := 2516) pkX19_addValue rfl (ghc24.cell 0 rfl).1 (ghc24.cell 0 rfl).2.1 (ghc24.ref 1 rfl) ?_
                  refine hd_ipush (z := 19) pkX19_addValue rfl ?_
                  refine hd_iload pkX19_addValue rfl rfl ?_
                  refine hd_iast (n := 30) pkX19_addValue rfl (ghc24.cell 2 rfl) (by decide) (by omega) (by omega) (fun hh25 ehh25 => ?_)
                  have ghh25 : Str t19 r19 hh25 := by rw [ehh25]; exact ghc24.setA rfl
                  have CW : Ch 140 2515 2516 [19] hc24 hh25 := by rw [ehh25]; exact (Ch.refl _ _ _ _ _).sgn (by decide) (by decide) inS
                  have hC := hC.trans (CW.mono (by decide))
                  have V7 := V7.keep (by decide) CW (by decide) (by simp only [List.mem_cons, List.not_mem_nil, or_false, not_or]; omega)
                  have V5 := V5.keep (by decide) CW (by decide) (by simp only [List.mem_cons, List.not_mem_nil, or_false, not_or]; omega)
                  have V9 := vy hh25 _ ehh25 esg
                  have yP : (y.natAbs : Int) < PW 13 := by omega
                  refine hd_aload pkX19_addValue rfl rfl (Int.natCast_nonneg _) ?_
                  refine hd_ipush (z := 19) pkX19_addValue rfl ?_
                  refine hd_iload pkX19_addValue rfl rfl ?_
                  refine hd_aload pkX19_addValue rfl rfl (Int.natCast_nonneg _) ?_
                  refine hd_getR (n := 2517) pkX19_addValue rfl (ghh25.cell 0 rfl).1 (ghh25.cell 0 rfl).2.1 (ghh25.ref 2 rfl) ?_
                  refine hd_iload pkX19_addValue rfl rfl ?_
                  refine hd_iald (n := 14) pkX19_addValue rfl (ghh25.cell 3 rfl) (by omega) (by omega) (fun v26 ev26 rv26 => ?_)
                  have qv26 : ak = v26 := eak.trans ((hC.1.ga (by decide) _).symm.trans ev26.symm)
                  subst qv26
                  refine hd_isub pkX19_addValue rfl (by omega) ?_
                  refine hd_i2l pkX19_addValue rfl ?_
                  refine hd_callV pkX19_addValue rfl (q := (KX19_times, yX19_times, 19, 2, 0)) rfl rfl rfl (As := [(0, 19), (1, (x - ak))]) (rest := []) (c := 2514) rfl rfl (Nat.le_of_ble_eq_true rfl) (ghh25.cell 0 rfl).1 (ghh25.cell 0 rfl).2.1 (h_X19_times (m := 13) (n := 1) (by decide) (by decide) (by decide) (by decide) V9 (by omega) yP (pw1 ⟨by omega, by omega⟩) (by decide) ghh25) (hd_bV (fun hc27 pt => ?_))
                  have ghc27 : Str t19 r19 hc27 := ghh25.only pt.1.1 (by decide)
                  have hC := hC.trans (pt.1.mono (by decide))
                  have V7 := V7.keep (by decide) pt.1 (by decide) (by simp only [List.mem_cons, List.not_mem_nil, or_false, not_or]; omega)
                  have V5 := V5.keep (by decide) pt.1 (by decide) (by simp only [List.mem_cons, List.not_mem_nil, or_false, not_or]; omega)
                  have V9 := pt.2
                  have b9 := PW_mk (k := 14) rfl yP (pw1 (y := x - ak) ⟨by omega, by omega⟩)
                  refine hd_aload pkX19_addValue rfl rfl (Int.natCast_nonneg _) ?_
                  refine hd_ipush (z := 17) pkX19_addValue rfl ?_
                  refine hd_ipush (z := 19) pkX19_addValue rfl ?_
                  refine hd_callV pkX19_addValue rfl (q := (KX19_add, yX19_add, 19, 2, 0)) rfl rfl rfl (As := [(0, 17), (0, 19)]) (rest := []) (c := 2514) rfl rfl (Nat.le_of_ble_eq_true rfl) (ghc27.cell 0 rfl).1 (ghc27.cell 0 rfl).2.1 (h_X19_add (m := 14) (by decide) (by decide) (by decide) (by decide) (by decide) (by decide) (by decide) V7 V9 (PW_up bK (by decide)) b9 (by decide) ghc27) (hd_bV (fun hc28 pa => ?_))
                  have ghc28 : Str t19 r19 hc28 := ghc27.only pa.1.1 (by decide)
                  have hC := hC.trans (pa.1.mono (by decide))
                  have V5 := V5.keep (by decide) pa.1 (by decide) (by simp only [List.mem_cons, List.not_mem_nil, or_false, not_or]; omega)
                  have V7 := pa.2
                  have b7 := PW_sum (PW_up bK (by decide)) b9
                  refine m_sub [(0, (2, ((2514 : Nat) : Int))), (1, (0, x)), (2, (1, ld9)), (4, (0, k))] (List.forall_mem_cons.mpr ⟨rfl, List.forall_mem_cons.mpr ⟨rfl, List.forall_mem_cons.mpr ⟨rfl, List.forall_mem_cons.mpr ⟨rfl, fun _ h => absurd h List.not_mem_nil⟩⟩⟩⟩) ?_
                  refine cut107 trivial hc28 ghc28 ?_ ?_ ?_
                  · exact hC
                  · exact ⟨_, V7, b7⟩
                  · exact V5
              · skip
                refine hd_iinc (z := (-1)) pkX19_addValue rfl rfl (by omega) rfl ?_
                change MW _ _ _ _ _ [(4, (0, (k + (-1)))), (0, (2, ((2514 : Nat) : Int))), (1, (0, x)), (2, (1, ld9))] _ _
                refine hd_goto pkX19_addValue rfl ?_
                refine m_sub [(0, (2, ((2514 : Nat) : Int))), (1, (0, x)), (2, (1, ld9)), (4, (0, (k + (-1))))] (List.forall_mem_cons.mpr ⟨rfl, List.forall_mem_cons.mpr ⟨rfl, List.forall_mem_cons.mpr ⟨rfl, List.forall_mem_cons.mpr ⟨rfl, fun _ h => absurd h List.not_mem_nil⟩⟩⟩⟩) ?_
                refine ih28  ((k + (-1))) ?_ ?_
                · have : k ≠ 0 := fun w => by
                    rw [w] at eax
                    omega
                  omega
                · omega
          refine m_sub [(0, (2, ((2514 : Nat) : Int))), (1, (0, x)), (2, (1, ld9)), (4, (0, (cn - 1)))] (List.forall_mem_cons.mpr ⟨rfl, List.forall_mem_cons.mpr ⟨rfl, List.forall_mem_cons.mpr ⟨rfl, List.forall_mem_cons.mpr ⟨rfl, fun _ h => absurd h List.not_mem_nil⟩⟩⟩⟩) ?_
          refine lp28 ((((cn - 1))) + 1).toNat ((cn - 1)) ?_ ?_
          · omega
          · omega
        · skip
          refine cut22 trivial
