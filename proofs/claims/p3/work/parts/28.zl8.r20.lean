/-! X1 by hand: X20: a row is told -/
theorem tq9 {x y a b : Int} (hx : -a ≤ x ∧ x ≤ a) (hy : -b ≤ y ∧ y ≤ b) (y0 : y ≠ 0) : (-a ≤ x.tdiv y ∧ x.tdiv y ≤ a) ∧ (-b ≤ x.tmod y ∧ x.tmod y ≤ b) := by
  have a1 : (x.tdiv y).natAbs = x.natAbs / y.natAbs := Int.natAbs_tdiv x y
  have a2 : (x.tmod y).natAbs = x.natAbs % y.natAbs := Int.natAbs_tmod x y
  have b1 : x.natAbs / y.natAbs ≤ x.natAbs := Nat.div_le_self _ _
  have b2 : x.natAbs % y.natAbs < y.natAbs := Nat.mod_lt _ (by omega)
  omega
set_option maxRecDepth 20000 in
set_option maxHeartbeats 8000000 in
theorem h_X20_rowOf {h : MH} {row M : Int} (m3 : M ≤ 3) (g : QR h M h) : MCal KX20_rowOf yX20_rowOf 0 0 [(2, ((2448 : Nat) : Int)), (0, row)] h (mRI fun _ h' => QR h M h') := by
  refine MCal.ofMW (Or.inl rfl) ⟨cp_X20, rfl⟩ (Nat.le_of_ble_eq_true rfl) ?_
  generalize eQ : (mRI fun _ h' => QR h M h' : MO → MH → Prop) = Q
  change MW KX20_rowOf Q 0 0 (pcA pgX20_rowOf 0) [(0, (2, ((2448 : Nat) : Int))), (1, (0, row))] [] h
  refine hd_locI (i := 1) rfl (fun rrow => ?_)
  refine hd_aload pkX20_rowOf rfl rfl (Int.natCast_nonneg _) ?_
  refine hd_ipush (z := 0) pkX20_rowOf rfl ?_
  refine hd_putI pkX20_rowOf rfl (st_cell g.1 (c := 2448) (k := 36) (n := 0) (by decide +kernel)).1 (st_cell g.1 (c := 2448) (k := 36) (n := 0) (by decide +kernel)).2.1 (fun hh1 ehh1 => ?_)
  replace ehh1 : hh1 = sa h 2448 0 0 := ehh1
  have ghh1 : QR h M hh1 := by rw [ehh1]; exact g.fld (by decide)
  refine hd_aload pkX20_rowOf rfl rfl (Int.natCast_nonneg _) ?_
  refine hd_getR (n := 2495) pkX20_rowOf rfl (st_cell ghh1.1 (c := 2448) (k := 36) (n := 0) (by decide +kernel)).1 (st_cell ghh1.1 (c := 2448) (k := 36) (n := 0) (by decide +kernel)).2.1 (st_ref ghh1.1 (by decide +kernel)) ?_
  refine hd_ipush (z := 0) pkX20_rowOf rfl ?_
  refine hd_callV pkX20_rowOf rfl (q := (KX14_count, yX14_count, 14, 1, 0)) rfl rfl rfl (As := [(0, 0)]) (rest := []) (c := 2495) rfl rfl (Nat.le_of_ble_eq_true rfl) (st_cell ghh1.1 (c := 2495) (k := 30) (n := 0) (by decide +kernel)).1 (st_cell ghh1.1 (c := 2495) (k := 30) (n := 0) (by decide +kernel)).2.1 (h_X14_count ghh1.2.2.2.1 (str_of (by decide +kernel) ghh1.1)) (hd_bI (fun v6 hc2 p6 => ?_))
  have ghc2 : QR h M hc2 := ghh1.o14 p6.2.1 p6.2.2.1 p6.2.2.2
  have mb : -1 ≤ v6 ∧ v6 ≤ 3 := ⟨p6.1.1.1, p6.1.2 rfl⟩
  refine hd_istore pkX20_rowOf rfl rfl ?_
  change MW _ _ _ _ _ [(2, (0, v6)), (0, (2, ((2448 : Nat) : Int))), (1, (0, row))] _ _
  refine hd_ipush (z := 0) pkX20_rowOf rfl ?_
  refine hd_istore pkX20_rowOf rfl rfl ?_
  change MW _ _ _ _ _ [(3, (0, 0)), (2, (0, v6)), (0, (2, ((2448 : Nat) : Int))), (1, (0, row))] _ _
  refine hd_ipush (z := 0) pkX20_rowOf rfl ?_
  refine hd_istore pkX20_rowOf rfl rfl ?_
  change MW _ _ _ _ _ [(4, (0, 0)), (3, (0, 0)), (2, (0, v6)), (0, (2, ((2448 : Nat) : Int))), (1, (0, row))] _ _
  have lp12 : ∀ (N12 : Nat) (n b : Int) (hB : MH), QR h M hB → (0 ≤ b) → (b ≤ v6 ∨ b = 0) → (4 * b ≤ n ∧ n ≤ 4 * b + 1) → (n = 4 * b ∨ (b = v6 ∧ 1 ≤ v6)) → v6 - b + 4 < (N12 : Int) → MW KX20_rowOf Q 0 0 (pcA pgX20_rowOf 12) [(0, (2, ((2448 : Nat) : Int))), (1, (0, row)), (2, (0, v6)), (3, (0, n)), (4, (0, b))] [] hB := by
    intro N12
    induction N12 with
    | zero => intro n b hB g12 b0 b1 n0 n1 hm12; exfalso; omega
    | succ N12 ih12 =>
      intro n b hB g12 b0 b1 n0 n1 hm12
      refine hd_iload pkX20_rowOf rfl rfl ?_
      refine hd_iload pkX20_rowOf rfl rfl ?_
      refine hd_ic_ge pkX20_rowOf rfl (fun c3 => ?_) (fun c3 => ?_)
      · skip
        refine hd_aload pkX20_rowOf rfl rfl (Int.natCast_nonneg _) ?_
        refine hd_getR (n := 2514) pkX20_rowOf rfl (st_cell g12.1 (c := 2448) (k := 36) (n := 0) (by decide +kernel)).1 (st_cell g12.1 (c := 2448) (k := 36) (n := 0) (by decide +kernel)).2.1 (st_ref g12.1 (by decide +kernel)) ?_
        obtain ⟨cn, jc⟩ := g12.2.2.2.2
        refine hd_callV pkX20_rowOf rfl (q := (KX19_clearRow, yX19_clearRow, 19, 0, 0)) rfl rfl rfl (As := []) (rest := []) (c := 2514) rfl rfl (Nat.le_of_ble_eq_true rfl) (st_cell g12.1 (c := 2514) (k := 35) (n := 0) (by decide +kernel)).1 (st_cell g12.1 (c := 2514) (k := 35) (n := 0) (by decide +kernel)).2.1 (h_X19_clearRow jc (str_of (by decide +kernel) g12.1)) (hd_bV (fun hc4 p127 => ?_))
        have ghc4 : QR h M hc4 := g12.o19 p127.1 ⟨0, p127.2.1⟩ p127.2.2
        refine hd_ipush (z := 0) pkX20_rowOf rfl ?_
        refine hd_istore pkX20_rowOf rfl rfl ?_
        change MW _ _ _ _ _ [(4, (0, 0)), (0, (2, ((2448 : Nat) : Int))), (1, (0, row)), (2, (0, v6)), (3, (0, n))] _ _
        refine hd_ipush (z := 0) pkX20_rowOf rfl ?_
        refine hd_istore pkX20_rowOf rfl rfl ?_
        change MW _ _ _ _ _ [(5, (0, 0)), (4, (0, 0)), (0, (2, ((2448 : Nat) : Int))), (1, (0, row)), (2, (0, v6)), (3, (0, n))] _ _
        refine hd_ipush (z := 0) pkX20_rowOf rfl ?_
        refine hd_istore pkX20_rowOf rfl rfl ?_
        change MW _ _ _ _ _ [(6, (0, 0)), (5, (0, 0)), (4, (0, 0)), (0, (2, ((2448 : Nat) : Int))), (1, (0, row)), (2, (0, v6)), (3, (0, n))] _ _
        have lp134 : ∀ (N134 : Nat) (ap ca i : Int) (hT : MH), QR h M hT → (0 ≤ i ∧ i ≤ n) → (0 ≤ ca ∧ ca ≤ i) → n - i < (N134 : Int) → MW KX20_rowOf Q 0 0 (pcA pgX20_rowOf 134) [(0, (2, ((2448 : Nat) : Int))), (1, (0, row)), (2, (0, v6)), (3, (0, n)), (4, (0, ap)), (5, (0, ca)), (6, (0, i))] [] hT := by
          intro N134
          induction N134 with
          | zero => intro ap ca i hT g134 i0 c0 hm134; exfalso; omega
          | succ N134 ih134 =>
            intro ap ca i hT g134 i0 c0 hm134
            refine hd_iload pkX20_rowOf rfl rfl ?_
            refine hd_iload pkX20_rowOf rfl rfl ?_
            refine hd_ic_ge pkX20_rowOf rfl (fun c5 => ?_) (fun c5 => ?_)
            · skip
              refine hd_aload pkX20_rowOf rfl rfl (Int.natCast_nonneg _) ?_
              refine hd_dup pkX20_rowOf rfl rfl ?_
              refine hd_getI pkX20_rowOf rfl (st_cell g134.1 (c := 2448) (k := 36) (n := 0) (by decide +kernel)).1 (st_cell g134.1 (c := 2448) (k := 36) (n := 0) (by decide +kernel)).2.1 (fun v6 ev6 rv6 => ?_)
              refine hd_ipush (z := 1) pkX20_rowOf rfl ?_
              refine hd_iaddW pkX20_rowOf rfl ?_
              refine hd_putI pkX20_rowOf rfl (st_cell g134.1 (c := 2448) (k := 36) (n := 0) (by decide +kernel)).1 (st_cell g134.1 (c := 2448) (k := 36) (n := 0) (by decide +kernel)).2.1 (fun hh7 ehh7 => ?_)
              replace ehh7 : hh7 = sa hT 2448 18 (wrI (v6 + 1)) := ehh7
              have ghh7 : QR h M hh7 := by rw [ehh7]; exact g134.fld (by decide)
              refine hd_iload pkX20_rowOf rfl rfl ?_
              refine hd_iret pkX20_rowOf rfl ?_
              subst eQ
              exact ⟨rfl, rfl, ghh7⟩
            · skip
              refine hd_iload pkX20_rowOf rfl rfl ?_
              refine hd_aload pkX20_rowOf rfl rfl (Int.natCast_nonneg _) ?_
              refine hd_getR (n := 2514) pkX20_rowOf rfl (st_cell g134.1 (c := 2448) (k := 36) (n := 0) (by decide +kernel)).1 (st_cell g134.1 (c := 2448) (k := 36) (n := 0) (by decide +kernel)).2.1 (st_ref g134.1 (by decide +kernel)) ?_
              refine hd_iload pkX20_rowOf rfl rfl ?_
              refine hd_i2l pkX20_rowOf rfl ?_
              refine hd_aload pkX20_rowOf rfl rfl (Int.natCast_nonneg _) ?_
              refine hd_getR (n := 2626) pkX20_rowOf rfl (st_cell g134.1 (c := 2448) (k := 36) (n := 0) (by decide +kernel)).1 (st_cell g134.1 (c := 2448) (k := 36) (n := 0) (by decide +kernel)).2.1 (st_ref g134.1 (by decide +kernel)) ?_
              refine hd_iload pkX20_rowOf rfl rfl ?_
              refine hd_lald (n := 14) pkX20_rowOf rfl (st_cell g134.1 (c := 2626) (k := 1) (n := 14) (by decide +kernel)) (by omega) (by omega) (fun v8 ev8 rv8 => ?_)
              refine hd_lpush (z := 1000) pkX20_rowOf rfl ?_
              obtain ⟨cn, jc⟩ := g134.2.2.2.2
              refine hd_callV pkX20_rowOf rfl (q := (KX19_row, yX19_row, 19, 3, 0)) rfl rfl rfl (As := [(1, ap), (1, v8), (1, 1000)]) (rest := [(0, ca)]) (c := 2514) rfl rfl (Nat.le_of_ble_eq_true rfl) (st_cell g134.1 (c := 2514) (k := 35) (n := 0) (by decide +kernel)).1 (st_cell g134.1 (c := 2514) (k := 35) (n := 0) (by decide +kernel)).2.1 (h_X19_row jc (str_of (by decide +kernel) g134.1)) (hd_bI (fun v147 hc9 p147 => ?_))
              have ghc9 : QR h M hc9 := g134.o19 p147.2.1 p147.2.2.1 p147.2.2.2
              refine hd_if_eq pkX20_rowOf rfl (fun c10 => ?_) (fun c10 => ?_)
              · skip
                refine hd_ipush (z := 0) pkX20_rowOf rfl ?_
                refine hd_iadd pkX20_rowOf rfl (by omega) ?_
                refine hd_istore pkX20_rowOf rfl rfl ?_
                change MW _ _ _ _ _ [(5, (0, (ca + 0))), (0, (2, ((2448 : Nat) : Int))), (1, (0, row)), (2, (0, v6)), (3, (0, n)), (4, (0, ap)), (6, (0, i))] _ _
                refine hd_iload pkX20_rowOf rfl rfl ?_
                refine hd_aload pkX20_rowOf rfl rfl (Int.natCast_nonneg _) ?_
                refine hd_getR (n := 2495) pkX20_rowOf rfl (st_cell ghc9.1 (c := 2448) (k := 36) (n := 0) (by decide +kernel)).1 (st_cell ghc9.1 (c := 2448) (k := 36) (n := 0) (by decide +kernel)).2.1 (st_ref ghc9.1 (by decide +kernel)) ?_
                refine hd_lengths (st_cell ghc9.1 (c := 2495) (k := 30) (n := 0) (by decide +kernel)) (st_ref ghc9.1 (c := 2495) (j := 4) (n := 2498) (by decide +kernel)) ?_
                refine hd_iload pkX20_rowOf rfl rfl ?_
                refine hd_ipush (z := 4) pkX20_rowOf rfl ?_
                refine hd_idiv pkX20_rowOf rfl (by decide) (by have w := (tdiv12 (x := i) (y := 4) (by omega) (by omega)).1; omega) ?_
                generalize ei4 : (Int.tdiv i 4) = i4
                rw [(tdiv12 (by omega) (by omega)).1] at ei4
                refine hd_iload pkX20_rowOf rfl rfl ?_
                have cut170 : ∀ (ix : Int), (0 ≤ ix ∧ ix ≤ 2) → MW KX20_rowOf Q 0 0 (pcA pgX20_rowOf 170) [(0, (2, ((2448 : Nat) : Int))), (1, (0, row)), (2, (0, v6)), (3, (0, n)), (4, (0, ap)), (5, (0, (ca + 0))), (6, (0, i))] [(0, ix), (2, ((2498 : Nat) : Int)), (0, ap)] hc9 := by
                  intro ix ixb
                  refine hd_iald (n := 3) pkX20_rowOf rfl (st_cell ghc9.1 (c := 2498) (k := 0) (n := 3) (by decide +kernel)) (by omega) (by omega) (fun v11 ev11 rv11 => ?_)
                  refine hd_iaddW pkX20_rowOf rfl ?_
                  generalize eat2 : (wrI (ap + v11)) = at2
                  refine hd_istore pkX20_rowOf rfl rfl ?_
                  change MW _ _ _ _ _ [(4, (0, at2)), (0, (2, ((2448 : Nat) : Int))), (1, (0, row)), (2, (0, v6)), (3, (0, n)), (5, (0, (ca + 0))), (6, (0, i))] _ _
                  refine hd_iinc (z := 1) pkX20_rowOf rfl rfl (by omega) rfl ?_
                  change MW _ _ _ _ _ [(6, (0, (i + 1))), (4, (0, at2)), (0, (2, ((2448 : Nat) : Int))), (1, (0, row)), (2, (0, v6)), (3, (0, n)), (5, (0, (ca + 0)))] _ _
                  refine hd_goto pkX20_rowOf rfl ?_
                  refine m_sub [(0, (2, ((2448 : Nat) : Int))), (1, (0, row)), (2, (0, v6)), (3, (0, n)), (4, (0, at2)), (5, (0, (ca + 0))), (6, (0, (i + 1)))] (List.forall_mem_cons.mpr ⟨rfl, List.forall_mem_cons.mpr ⟨rfl, List.forall_mem_cons.mpr ⟨rfl, List.forall_mem_cons.mpr ⟨rfl, List.forall_mem_cons.mpr ⟨rfl, List.forall_mem_cons.mpr ⟨rfl, List.forall_mem_cons.mpr ⟨rfl, fun _ h => absurd h List.not_mem_nil⟩⟩⟩⟩⟩⟩⟩) ?_
                  refine ih134  (at2) ((ca + 0)) ((i + 1)) hc9 ghc9 ?_ ?_ ?_
                  · omega
                  · omega
                  · omega
                refine hd_ic_ge pkX20_rowOf rfl (fun c12 => ?_) (fun c12 => ?_)
                · skip
                  refine hd_iload pkX20_rowOf rfl rfl ?_
                  refine hd_ipush (z := 1) pkX20_rowOf rfl ?_
                  refine hd_isub pkX20_rowOf rfl (by omega) ?_
                  refine m_sub [(0, (2, ((2448 : Nat) : Int))), (1, (0, row)), (2, (0, v6)), (3, (0, n)), (4, (0, ap)), (5, (0, (ca + 0))), (6, (0, i))] (List.forall_mem_cons.mpr ⟨rfl, List.forall_mem_cons.mpr ⟨rfl, List.forall_mem_cons.mpr ⟨rfl, List.forall_mem_cons.mpr ⟨rfl, List.forall_mem_cons.mpr ⟨rfl, List.forall_mem_cons.mpr ⟨rfl, List.forall_mem_cons.mpr ⟨rfl, fun _ h => absurd h List.not_mem_nil⟩⟩⟩⟩⟩⟩⟩) ?_
                  refine cut170 ((v6 - 1)) ?_
                  · omega
                · skip
                  refine hd_iload pkX20_rowOf rfl rfl ?_
                  refine hd_ipush (z := 4) pkX20_rowOf rfl ?_
                  refine hd_idiv pkX20_rowOf rfl (by decide) (by have w := (tdiv12 (x := i) (y := 4) (by omega) (by omega)).1; omega) ?_
                  generalize ei5 : (Int.tdiv i 4) = i5
                  rw [(tdiv12 (by omega) (by omega)).1] at ei5
                  refine hd_goto pkX20_rowOf rfl ?_
                  refine m_sub [(0, (2, ((2448 : Nat) : Int))), (1, (0, row)), (2, (0, v6)), (3, (0, n)), (4, (0, ap)), (5, (0, (ca + 0))), (6, (0, i))] (List.forall_mem_cons.mpr ⟨rfl, List.forall_mem_cons.mpr ⟨rfl, List.forall_mem_cons.mpr ⟨rfl, List.forall_mem_cons.mpr ⟨rfl, List.forall_mem_cons.mpr ⟨rfl, List.forall_mem_cons.mpr ⟨rfl, List.forall_mem_cons.mpr ⟨rfl, fun _ h => absurd h List.not_mem_nil⟩⟩⟩⟩⟩⟩⟩) ?_
                  refine cut170 (i5) ?_
                  · omega
              · skip
                refine hd_ipush (z := 1) pkX20_rowOf rfl ?_
                refine hd_goto pkX20_rowOf rfl ?_
                refine hd_iadd pkX20_rowOf rfl (by omega) ?_
                refine hd_istore pkX20_rowOf rfl rfl ?_
                change MW _ _ _ _ _ [(5, (0, (ca + 1))), (0, (2, ((2448 : Nat) : Int))), (1, (0, row)), (2, (0, v6)), (3, (0, n)), (4, (0, ap)), (6, (0, i))] _ _
                refine hd_iload pkX20_rowOf rfl rfl ?_
                refine hd_aload pkX20_rowOf rfl rfl (Int.natCast_nonneg _) ?_
                refine hd_getR (n := 2495) pkX20_rowOf rfl (st_cell ghc9.1 (c := 2448) (k := 36) (n := 0) (by decide +kernel)).1 (st_cell ghc9.1 (c := 2448) (k := 36) (n := 0) (by decide +kernel)).2.1 (st_ref ghc9.1 (by decide +kernel)) ?_
                refine hd_lengths (st_cell ghc9.1 (c := 2495) (k := 30) (n := 0) (by decide +kernel)) (st_ref ghc9.1 (c := 2495) (j := 4) (n := 2498) (by decide +kernel)) ?_
                refine hd_iload pkX20_rowOf rfl rfl ?_
                refine hd_ipush (z := 4) pkX20_rowOf rfl ?_
                refine hd_idiv pkX20_rowOf rfl (by decide) (by have w := (tdiv12 (x := i) (y := 4) (by omega) (by omega)).1; omega) ?_
                generalize ei4 : (Int.tdiv i 4) = i4
                rw [(tdiv12 (by omega) (by omega)).1] at ei4
                refine hd_iload pkX20_rowOf rfl rfl ?_
                have cut170 : ∀ (ix : Int), (0 ≤ ix ∧ ix ≤ 2) → MW KX20_rowOf Q 0 0 (pcA pgX20_rowOf 170) [(0, (2, ((2448 : Nat) : Int))), (1, (0, row)), (2, (0, v6)), (3, (0, n)), (4, (0, ap)), (5, (0, (ca + 1))), (6, (0, i))] [(0, ix), (2, ((2498 : Nat) : Int)), (0, ap)] hc9 := by
                  intro ix ixb
                  refine hd_iald (n := 3) pkX20_rowOf rfl (st_cell ghc9.1 (c := 2498) (k := 0) (n := 3) (by decide +kernel)) (by omega) (by omega) (fun v13 ev13 rv13 => ?_)
                  refine hd_iaddW pkX20_rowOf rfl ?_
                  generalize eat2 : (wrI (ap + v13)) = at2
                  refine hd_istore pkX20_rowOf rfl rfl ?_
                  change MW _ _ _ _ _ [(4, (0, at2)), (0, (2, ((2448 : Nat) : Int))), (1, (0, row)), (2, (0, v6)), (3, (0, n)), (5, (0, (ca + 1))), (6, (0, i))] _ _
                  refine hd_iinc (z := 1) pkX20_rowOf rfl rfl (by omega) rfl ?_
                  change MW _ _ _ _ _ [(6, (0, (i + 1))), (4, (0, at2)), (0, (2, ((2448 : Nat) : Int))), (1, (0, row)), (2, (0, v6)), (3, (0, n)), (5, (0, (ca + 1)))] _ _
                  refine hd_goto pkX20_rowOf rfl ?_
                  refine m_sub [(0, (2, ((2448 : Nat) : Int))), (1, (0, row)), (2, (0, v6)), (3, (0, n)), (4, (0, at2)), (5, (0, (ca + 1))), (6, (0, (i + 1)))] (List.forall_mem_cons.mpr ⟨rfl, List.forall_mem_cons.mpr ⟨rfl, List.forall_mem_cons.mpr ⟨rfl, List.forall_mem_cons.mpr ⟨rfl, List.forall_mem_cons.mpr ⟨rfl, List.forall_mem_cons.mpr ⟨rfl, List.forall_mem_cons.mpr ⟨rfl, fun _ h => absurd h List.not_mem_nil⟩⟩⟩⟩⟩⟩⟩) ?_
                  refine ih134  (at2) ((ca + 1)) ((i + 1)) hc9 ghc9 ?_ ?_ ?_
                  · omega
                  · omega
                  · omega
                refine hd_ic_ge pkX20_rowOf rfl (fun c14 => ?_) (fun c14 => ?_)
                · skip
                  refine hd_iload pkX20_rowOf rfl rfl ?_
                  refine hd_ipush (z := 1) pkX20_rowOf rfl ?_
                  refine hd_isub pkX20_rowOf rfl (by omega) ?_
                  refine m_sub [(0, (2, ((2448 : Nat) : Int))), (1, (0, row)), (2, (0, v6)), (3, (0, n)), (4, (0, ap)), (5, (0, (ca + 1))), (6, (0, i))] (List.forall_mem_cons.mpr ⟨rfl, List.forall_mem_cons.mpr ⟨rfl, List.forall_mem_cons.mpr ⟨rfl, List.forall_mem_cons.mpr ⟨rfl, List.forall_mem_cons.mpr ⟨rfl, List.forall_mem_cons.mpr ⟨rfl, List.forall_mem_cons.mpr ⟨rfl, fun _ h => absurd h List.not_mem_nil⟩⟩⟩⟩⟩⟩⟩) ?_
                  refine cut170 ((v6 - 1)) ?_
                  · omega
                · skip
                  refine hd_iload pkX20_rowOf rfl rfl ?_
                  refine hd_ipush (z := 4) pkX20_rowOf rfl ?_
                  refine hd_idiv pkX20_rowOf rfl (by decide) (by have w := (tdiv12 (x := i) (y := 4) (by omega) (by omega)).1; omega) ?_
                  generalize ei5 : (Int.tdiv i 4) = i5
                  rw [(tdiv12 (by omega) (by omega)).1] at ei5
                  refine hd_goto pkX20_rowOf rfl ?_
                  refine m_sub [(0, (2, ((2448 : Nat) : Int))), (1, (0, row)), (2, (0, v6)), (3, (0, n)), (4, (0, ap)), (5, (0, (ca + 1))), (6, (0, i))] (List.forall_mem_cons.mpr ⟨rfl, List.forall_mem_cons.mpr ⟨rfl, List.forall_mem_cons.mpr ⟨rfl, List.forall_mem_cons.mpr ⟨rfl, List.forall_mem_cons.mpr ⟨rfl, List.forall_mem_cons.mpr ⟨rfl, List.forall_mem_cons.mpr ⟨rfl, fun _ h => absurd h List.not_mem_nil⟩⟩⟩⟩⟩⟩⟩) ?_
                  refine cut170 (i5) ?_
                  · omega
        refine m_sub [(0, (2, ((2448 : Nat) : Int))), (1, (0, row)), (2, (0, v6)), (3, (0, n)), (4, (0, 0)), (5, (0, 0)), (6, (0, 0))] (List.forall_mem_cons.mpr ⟨rfl, List.forall_mem_cons.mpr ⟨rfl, List.forall_mem_cons.mpr ⟨rfl, List.forall_mem_cons.mpr ⟨rfl, List.forall_mem_cons.mpr ⟨rfl, List.forall_mem_cons.mpr ⟨rfl, List.forall_mem_cons.mpr ⟨rfl, fun _ h => absurd h List.not_mem_nil⟩⟩⟩⟩⟩⟩⟩) ?_
        refine lp134 ((n - (0)) + 1).toNat (0) (0) (0) hc4 ghc4 ?_ ?_ ?_
        · omega
        · omega
        · omega
      · skip
        refine hd_ipush (z := 0) pkX20_rowOf rfl ?_
        refine hd_istore pkX20_rowOf rfl rfl ?_
        change MW _ _ _ _ _ [(5, (0, 0)), (0, (2, ((2448 : Nat) : Int))), (1, (0, row)), (2, (0, v6)), (3, (0, n)), (4, (0, b))] _ _
        have lp17 : ∀ (N17 : Nat) (n q : Int) (hP : MH), QR h M hP → (0 ≤ q ∧ q ≤ 5) → (q = 5 → b = v6 - 1) → (n = 4 * b + q) → (5 : Int) - q < (N17 : Int) → MW KX20_rowOf Q 0 0 (pcA pgX20_rowOf 17) [(0, (2, ((2448 : Nat) : Int))), (1, (0, row)), (2, (0, v6)), (3, (0, n)), (4, (0, b)), (5, (0, q))] [] hP := by
          intro N17
          induction N17 with
          | zero => intro n q hP g17 q0 q1 nq hm17; exfalso; omega
          | succ N17 ih17 =>
            intro n q hP g17 q0 q1 nq hm17
            refine hd_iload pkX20_rowOf rfl rfl ?_
            refine hd_iload pkX20_rowOf rfl rfl ?_
            refine hd_iload pkX20_rowOf rfl rfl ?_
            refine hd_ipush (z := 1) pkX20_rowOf rfl ?_
            refine hd_isub pkX20_rowOf rfl (by omega) ?_
            have cut26 : ∀ (lm : Int), ((lm = 5 ∧ b = v6 - 1) ∨ (lm = 4 ∧ b ≠ v6 - 1)) → MW KX20_rowOf Q 0 0 (pcA pgX20_rowOf 26) [(0, (2, ((2448 : Nat) : Int))), (1, (0, row)), (2, (0, v6)), (3, (0, n)), (4, (0, b)), (5, (0, q))] [(0, lm), (0, q)] hP := by
              intro lm lmb
              refine hd_ic_ge pkX20_rowOf rfl (fun c15 => ?_) (fun c15 => ?_)
              · skip
                refine hd_iinc (z := 1) pkX20_rowOf rfl rfl (by omega) rfl ?_
                change MW _ _ _ _ _ [(4, (0, (b + 1))), (0, (2, ((2448 : Nat) : Int))), (1, (0, row)), (2, (0, v6)), (3, (0, n)), (5, (0, q))] _ _
                refine hd_goto pkX20_rowOf rfl ?_
                refine m_sub [(0, (2, ((2448 : Nat) : Int))), (1, (0, row)), (2, (0, v6)), (3, (0, n)), (4, (0, (b + 1)))] (List.forall_mem_cons.mpr ⟨rfl, List.forall_mem_cons.mpr ⟨rfl, List.forall_mem_cons.mpr ⟨rfl, List.forall_mem_cons.mpr ⟨rfl, List.forall_mem_cons.mpr ⟨rfl, fun _ h => absurd h List.not_mem_nil⟩⟩⟩⟩⟩) ?_
                refine ih12  (n) ((b + 1)) hP g17 ?_ ?_ ?_ ?_ ?_
                · omega
                · omega
                · omega
                · omega
                · omega
              · skip
                refine hd_aload pkX20_rowOf rfl rfl (Int.natCast_nonneg _) ?_
                refine hd_getR (n := 2495) pkX20_rowOf rfl (st_cell g17.1 (c := 2448) (k := 36) (n := 0) (by decide +kernel)).1 (st_cell g17.1 (c := 2448) (k := 36) (n := 0) (by decide +kernel)).2.1 (st_ref g17.1 (by decide +kernel)) ?_
                refine hd_iload pkX20_rowOf rfl rfl ?_
                refine hd_iload pkX20_rowOf rfl rfl ?_
                refine hd_iload pkX20_rowOf rfl rfl ?_
                refine hd_ipush (z := 0) pkX20_rowOf rfl ?_
                refine hd_callV pkX20_rowOf rfl (q := (KX14_at, yX14_at, 14, 4, 0)) rfl rfl rfl (As := [(0, row), (0, b), (0, q), (0, 0)]) (rest := []) (c := 2495) rfl rfl (Nat.le_of_ble_eq_true rfl) (st_cell g17.1 (c := 2495) (k := 30) (n := 0) (by decide +kernel)).1 (st_cell g17.1 (c := 2495) (k := 30) (n := 0) (by decide +kernel)).2.1 g17.at (hd_bL (fun v33 hc16 p33 => ?_))
                have ghc16 : QR h M hc16 := p33.1
                have rk33 := p33.2.1
                have at33 := p33.2.2
                have ab33 := at33.b (by decide)
                refine hd_lstore pkX20_rowOf rfl rfl ?_
                change MW _ _ _ _ _ [(6, (1, v33)), (0, (2, ((2448 : Nat) : Int))), (1, (0, row)), (2, (0, v6)), (3, (0, n)), (4, (0, b)), (5, (0, q))] _ _
                refine hd_aload pkX20_rowOf rfl rfl (Int.natCast_nonneg _) ?_
                refine hd_getR (n := 2495) pkX20_rowOf rfl (st_cell ghc16.1 (c := 2448) (k := 36) (n := 0) (by decide +kernel)).1 (st_cell ghc16.1 (c := 2448) (k := 36) (n := 0) (by decide +kernel)).2.1 (st_ref ghc16.1 (by decide +kernel)) ?_
                refine hd_iload pkX20_rowOf rfl rfl ?_
                refine hd_iload pkX20_rowOf rfl rfl ?_
                refine hd_iload pkX20_rowOf rfl rfl ?_
                refine hd_ipush (z := 1) pkX20_rowOf rfl ?_
                refine hd_callV pkX20_rowOf rfl (q := (KX14_at, yX14_at, 14, 4, 0)) rfl rfl rfl (As := [(0, row), (0, b), (0, q), (0, 1)]) (rest := []) (c := 2495) rfl rfl (Nat.le_of_ble_eq_true rfl) (st_cell ghc16.1 (c := 2495) (k := 30) (n := 0) (by decide +kernel)).1 (st_cell ghc16.1 (c := 2495) (k := 30) (n := 0) (by decide +kernel)).2.1 ghc16.at (hd_bL (fun v41 hc17 p41 => ?_))
                have ghc17 : QR h M hc17 := p41.1
                have rk41 := p41.2.1
                have at41 := p41.2.2
                have ab41 := at41.b (by decide)
                refine hd_lstore pkX20_rowOf rfl rfl ?_
                change MW _ _ _ _ _ [(8, (1, v41)), (6, (1, v33)), (0, (2, ((2448 : Nat) : Int))), (1, (0, row)), (2, (0, v6)), (3, (0, n)), (4, (0, b)), (5, (0, q))] _ _
                refine hd_aload pkX20_rowOf rfl rfl (Int.natCast_nonneg _) ?_
                refine hd_getR (n := 2495) pkX20_rowOf rfl (st_cell ghc17.1 (c := 2448) (k := 36) (n := 0) (by decide +kernel)).1 (st_cell ghc17.1 (c := 2448) (k := 36) (n := 0) (by decide +kernel)).2.1 (st_ref ghc17.1 (by decide +kernel)) ?_
                refine hd_iload pkX20_rowOf rfl rfl ?_
                refine hd_iload pkX20_rowOf rfl rfl ?_
                refine hd_iload pkX20_rowOf rfl rfl ?_
                refine hd_ipush (z := (-1)) pkX20_rowOf rfl ?_
                refine hd_callV pkX20_rowOf rfl (q := (KX14_at, yX14_at, 14, 4, 0)) rfl rfl rfl (As := [(0, row), (0, b), (0, q), (0, (-1))]) (rest := []) (c := 2495) rfl rfl (Nat.le_of_ble_eq_true rfl) (st_cell ghc17.1 (c := 2495) (k := 30) (n := 0) (by decide +kernel)).1 (st_cell ghc17.1 (c := 2495) (k := 30) (n := 0) (by decide +kernel)).2.1 ghc17.at (hd_bL (fun v49 hc18 p49 => ?_))
                have ghc18 : QR h M hc18 := p49.1
                have rk49 := p49.2.1
                have at49 := p49.2.2
                have sb := at49.s
                refine hd_lstore pkX20_rowOf rfl rfl ?_
                change MW _ _ _ _ _ [(10, (1, v49)), (8, (1, v41)), (6, (1, v33)), (0, (2, ((2448 : Nat) : Int))), (1, (0, row)), (2, (0, v6)), (3, (0, n)), (4, (0, b)), (5, (0, q))] _ _
                refine hd_lload pkX20_rowOf rfl rfl ?_
                refine hd_lpush (z := (-2)) pkX20_rowOf rfl ?_
                refine hd_lc_eq pkX20_rowOf rfl (fun c19 => ?_) (fun c19 => ?_)
                · skip
                  refine hd_ipush (z := (-1)) pkX20_rowOf rfl ?_
                  refine hd_iret pkX20_rowOf rfl ?_
                  subst eQ
                  exact ⟨rfl, rfl, ghc18⟩
                · skip
                  refine hd_aload pkX20_rowOf rfl rfl (Int.natCast_nonneg _) ?_
                  refine hd_getR (n := 2495) pkX20_rowOf rfl (st_cell ghc18.1 (c := 2448) (k := 36) (n := 0) (by decide +kernel)).1 (st_cell ghc18.1 (c := 2448) (k := 36) (n := 0) (by decide +kernel)).2.1 (st_ref ghc18.1 (by decide +kernel)) ?_
                  refine hd_iload pkX20_rowOf rfl rfl ?_
                  refine hd_iload pkX20_rowOf rfl rfl ?_
                  refine hd_iload pkX20_rowOf rfl rfl ?_
                  refine hd_ipush (z := 2) pkX20_rowOf rfl ?_
                  refine hd_callV pkX20_rowOf rfl (q := (KX14_at, yX14_at, 14, 4, 0)) rfl rfl rfl (As := [(0, row), (0, b), (0, q), (0, 2)]) (rest := []) (c := 2495) rfl rfl (Nat.le_of_ble_eq_true rfl) (st_cell ghc18.1 (c := 2495) (k := 30) (n := 0) (by decide +kernel)).1 (st_cell ghc18.1 (c := 2495) (k := 30) (n := 0) (by decide +kernel)).2.1 ghc18.at (hd_bL (fun v61 hc20 p61 => ?_))
                  have ghc20 : QR h M hc20 := p61.1
                  have rk61 := p61.2.1
                  have at61 := p61.2.2
                  have ab61 := at61.b (by decide)
                  refine hd_lpush (z := 0) pkX20_rowOf rfl ?_
                  refine hd_lc_ne pkX20_rowOf rfl (fun c21 => ?_) (fun c21 => ?_)
                  · skip
                    refine hd_ipush (z := (-1)) pkX20_rowOf rfl ?_
                    refine hd_iret pkX20_rowOf rfl ?_
                    subst eQ
                    exact ⟨rfl, rfl, ghc20⟩
                  · skip
                    refine hd_aload pkX20_rowOf rfl rfl (Int.natCast_nonneg _) ?_
                    refine hd_getR (n := 2495) pkX20_rowOf rfl (st_cell ghc20.1 (c := 2448) (k := 36) (n := 0) (by decide +kernel)).1 (st_cell ghc20.1 (c := 2448) (k := 36) (n := 0) (by decide +kernel)).2.1 (st_ref ghc20.1 (by decide +kernel)) ?_
                    refine hd_iload pkX20_rowOf rfl rfl ?_
                    refine hd_iload pkX20_rowOf rfl rfl ?_
                    refine hd_iload pkX20_rowOf rfl rfl ?_
                    refine hd_ipush (z := 3) pkX20_rowOf rfl ?_
                    refine hd_callV pkX20_rowOf rfl (q := (KX14_at, yX14_at, 14, 4, 0)) rfl rfl rfl (As := [(0, row), (0, b), (0, q), (0, 3)]) (rest := []) (c := 2495) rfl rfl (Nat.le_of_ble_eq_true rfl) (st_cell ghc20.1 (c := 2495) (k := 30) (n := 0) (by decide +kernel)).1 (st_cell ghc20.1 (c := 2495) (k := 30) (n := 0) (by decide +kernel)).2.1 ghc20.at (hd_bL (fun v71 hc22 p71 => ?_))
                    have ghc22 : QR h M hc22 := p71.1
                    have rk71 := p71.2.1
                    have at71 := p71.2.2
                    have ab71 := at71.b (by decide)
                    refine hd_lpush (z := 0) pkX20_rowOf rfl ?_
                    refine hd_lc_ne pkX20_rowOf rfl (fun c23 => ?_) (fun c23 => ?_)
                    · skip
                      refine hd_ipush (z := (-1)) pkX20_rowOf rfl ?_
                      refine hd_iret pkX20_rowOf rfl ?_
                      subst eQ
                      exact ⟨rfl, rfl, ghc22⟩
                    · skip
                      refine hd_lload pkX20_rowOf rfl rfl ?_
                      refine hd_lpush (z := 999999999999999) pkX20_rowOf rfl ?_
                      refine hd_lc_gt pkX20_rowOf rfl (fun c24 => ?_) (fun c24 => ?_)
                      · skip
                        refine hd_ipush (z := (-1)) pkX20_rowOf rfl ?_
                        refine hd_iret pkX20_rowOf rfl ?_
                        subst eQ
                        exact ⟨rfl, rfl, ghc22⟩
                      · skip
                        refine hd_lload pkX20_rowOf rfl rfl ?_
                        refine hd_lpush (z := 999999999999999) pkX20_rowOf rfl ?_
                        refine hd_lc_le pkX20_rowOf rfl (fun c25 => ?_) (fun c25 => ?_)
                        · skip
                          have lowz := at41.low m3 at71 (by omega) (rk49.trans (rk61.trans rk71))
                          have tq := tq9 (x := v33) (y := v41) (a := 999999999999999) (b := 999999999999999) ⟨by omega, by omega⟩ ⟨by omega, by omega⟩ lowz
                          refine hd_lload pkX20_rowOf rfl rfl ?_
                          refine hd_lload pkX20_rowOf rfl rfl ?_
                          refine hd_ldiv pkX20_rowOf rfl (by exact lowz) (by omega) ?_
                          generalize ewh : (Int.tdiv v33 v41) = wh
                          rw [ewh] at tq
                          refine hd_lstore pkX20_rowOf rfl rfl ?_
                          change MW _ _ _ _ _ [(12, (1, wh)), (10, (1, v49)), (8, (1, v41)), (6, (1, v33)), (0, (2, ((2448 : Nat) : Int))), (1, (0, row)), (2, (0, v6)), (3, (0, n)), (4, (0, b)), (5, (0, q))] _ _
                          refine hd_lload pkX20_rowOf rfl rfl ?_
                          refine hd_lpush (z := 1000) pkX20_rowOf rfl ?_
                          refine hd_lc_le pkX20_rowOf rfl (fun c26 => ?_) (fun c26 => ?_)
                          · skip
                            refine hd_lpush (z := 1000) pkX20_rowOf rfl ?_
                            refine hd_lload pkX20_rowOf rfl rfl ?_
                            refine hd_lmul pkX20_rowOf rfl (by omega) ?_
                            refine hd_lpush (z := 1000) pkX20_rowOf rfl ?_
                            refine hd_lload pkX20_rowOf rfl rfl ?_
                            refine hd_lload pkX20_rowOf rfl rfl ?_
                            refine hd_lrem pkX20_rowOf rfl (by exact lowz) (by omega) ?_
                            generalize erm : (Int.tmod v33 v41) = rm
                            rw [erm] at tq
                            refine hd_lmul pkX20_rowOf rfl (by omega) ?_
                            refine hd_lload pkX20_rowOf rfl rfl ?_
                            have tq2 := tq9 (x := (1000 * rm)) (y := v41) (a := 999999999999999000) (b := 999999999999999) ⟨by omega, by omega⟩ ⟨by omega, by omega⟩ lowz
                            refine hd_ldiv pkX20_rowOf rfl (by exact lowz) (by omega) ?_
                            generalize efr : (Int.tdiv (1000 * rm) v41) = fr
                            rw [efr] at tq2
                            refine hd_ladd pkX20_rowOf rfl (by omega) ?_
                            generalize evv : ((1000 * wh) + fr) = vv
                            refine hd_lstore pkX20_rowOf rfl rfl ?_
                            change MW _ _ _ _ _ [(14, (1, vv)), (12, (1, wh)), (10, (1, v49)), (8, (1, v41)), (6, (1, v33)), (0, (2, ((2448 : Nat) : Int))), (1, (0, row)), (2, (0, v6)), (3, (0, n)), (4, (0, b)), (5, (0, q))] _ _
                            refine hd_lload pkX20_rowOf rfl rfl ?_
                            refine hd_lpush (z := 1000000) pkX20_rowOf rfl ?_
                            refine hd_lc_le pkX20_rowOf rfl (fun c27 => ?_) (fun c27 => ?_)
                            · skip
                              refine hd_aload pkX20_rowOf rfl rfl (Int.natCast_nonneg _) ?_
                              refine hd_getR (n := 2626) pkX20_rowOf rfl (st_cell ghc22.1 (c := 2448) (k := 36) (n := 0) (by decide +kernel)).1 (st_cell ghc22.1 (c := 2448) (k := 36) (n := 0) (by decide +kernel)).2.1 (st_ref ghc22.1 (by decide +kernel)) ?_
                              refine hd_iload pkX20_rowOf rfl rfl ?_
                              refine hd_lload pkX20_rowOf rfl rfl ?_
                              refine hd_lload pkX20_rowOf rfl rfl ?_
                              have sp := mul_ab (x := v49) (y := vv) (a := 1) (b := 2000000000000000000) ⟨by omega, by omega⟩ ⟨by omega, by omega⟩
                              refine hd_lmul pkX20_rowOf rfl (by omega) ?_
                              refine hd_last (n := 14) pkX20_rowOf rfl (st_cell ghc22.1 (c := 2626) (k := 1) (n := 14) (by decide +kernel)) (by decide) (by omega) (by omega) (fun hh28 ehh28 => ?_)
                              have ghh28 : QR h M hh28 := by rw [ehh28]; exact ghc22.cor
                              refine hd_iinc (z := 1) pkX20_rowOf rfl rfl (by omega) rfl ?_
                              change MW _ _ _ _ _ [(3, (0, (n + 1))), (14, (1, vv)), (12, (1, wh)), (10, (1, v49)), (8, (1, v41)), (6, (1, v33)), (0, (2, ((2448 : Nat) : Int))), (1, (0, row)), (2, (0, v6)), (4, (0, b)), (5, (0, q))] _ _
                              refine hd_iinc (z := 1) pkX20_rowOf rfl rfl (by omega) rfl ?_
                              change MW _ _ _ _ _ [(5, (0, (q + 1))), (3, (0, (n + 1))), (14, (1, vv)), (12, (1, wh)), (10, (1, v49)), (8, (1, v41)), (6, (1, v33)), (0, (2, ((2448 : Nat) : Int))), (1, (0, row)), (2, (0, v6)), (4, (0, b))] _ _
                              refine hd_goto pkX20_rowOf rfl ?_
                              refine m_sub [(0, (2, ((2448 : Nat) : Int))), (1, (0, row)), (2, (0, v6)), (3, (0, (n + 1))), (4, (0, b)), (5, (0, (q + 1)))] (List.forall_mem_cons.mpr ⟨rfl, List.forall_mem_cons.mpr ⟨rfl, List.forall_mem_cons.mpr ⟨rfl, List.forall_mem_cons.mpr ⟨rfl, List.forall_mem_cons.mpr ⟨rfl, List.forall_mem_cons.mpr ⟨rfl, fun _ h => absurd h List.not_mem_nil⟩⟩⟩⟩⟩⟩) ?_
                              refine ih17  ((n + 1)) ((q + 1)) hh28 ghh28 ?_ ?_ ?_ ?_
                              · omega
                              · omega
                              · omega
                              · omega
                            · skip
                              refine hd_ipush (z := (-1)) pkX20_rowOf rfl ?_
                              refine hd_iret pkX20_rowOf rfl ?_
                              subst eQ
                              exact ⟨rfl, rfl, ghc22⟩
                          · skip
                            refine hd_ipush (z := (-1)) pkX20_rowOf rfl ?_
                            refine hd_iret pkX20_rowOf rfl ?_
                            subst eQ
                            exact ⟨rfl, rfl, ghc22⟩
                        · skip
                          refine hd_ipush (z := (-1)) pkX20_rowOf rfl ?_
                          refine hd_iret pkX20_rowOf rfl ?_
                          subst eQ
                          exact ⟨rfl, rfl, ghc22⟩
            refine hd_ic_ne pkX20_rowOf rfl (fun c29 => ?_) (fun c29 => ?_)
            · skip
              refine hd_ipush (z := 4) pkX20_rowOf rfl ?_
              refine cut26 (4) ?_
              · omega
            · skip
              refine hd_ipush (z := 5) pkX20_rowOf rfl ?_
              refine hd_goto pkX20_rowOf rfl ?_
              refine cut26 (5) ?_
              · omega
        refine m_sub [(0, (2, ((2448 : Nat) : Int))), (1, (0, row)), (2, (0, v6)), (3, (0, n)), (4, (0, b)), (5, (0, 0))] (List.forall_mem_cons.mpr ⟨rfl, List.forall_mem_cons.mpr ⟨rfl, List.forall_mem_cons.mpr ⟨rfl, List.forall_mem_cons.mpr ⟨rfl, List.forall_mem_cons.mpr ⟨rfl, List.forall_mem_cons.mpr ⟨rfl, fun _ h => absurd h List.not_mem_nil⟩⟩⟩⟩⟩⟩) ?_
        refine lp17 (((5 : Int) - (0)) + 1).toNat (n) (0) hB g12 ?_ ?_ ?_ ?_
        · omega
        · omega
        · omega
        · omega
  refine m_sub [(0, (2, ((2448 : Nat) : Int))), (1, (0, row)), (2, (0, v6)), (3, (0, 0)), (4, (0, 0))] (List.forall_mem_cons.mpr ⟨rfl, List.forall_mem_cons.mpr ⟨rfl, List.forall_mem_cons.mpr ⟨rfl, List.forall_mem_cons.mpr ⟨rfl, List.forall_mem_cons.mpr ⟨rfl, fun _ h => absurd h List.not_mem_nil⟩⟩⟩⟩⟩) ?_
  refine lp12 ((v6 - (0) + 4) + 1).toNat (0) (0) hc2 ghc2 ?_ ?_ ?_ ?_ ?_
  · omega
  · omega
  · omega
  · omega
  · omega
