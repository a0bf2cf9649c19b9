/-! X0 by hand: forces -/
set_option maxRecDepth 20000 in
set_option maxHeartbeats 8000000 in
theorem h_X0_gatherForces {h : MH} (sz : SZ0 h) (g : StrZ zT h) : MCal KX0_gatherForces yX0_gatherForces 0 0 [(2, ((161 : Nat) : Int))] h (mRV fun h' => StrZ zT h' ∧ Only gCs h h' ∧ (∀ j : Int, 0 ≤ j → j ≠ 14 → ga h' 161 j = ga h 161 j) ∧ ∀ x y : Int, 0 ≤ x → x < 8 → 0 ≤ y → y < 8 → -68719476736 ≤ ga h' (fR x) y ∧ ga h' (fR x) y ≤ 68719476736) := by
  refine MCal.ofMW (Or.inl rfl) ⟨cp_X0, rfl⟩ (Nat.le_of_ble_eq_true rfl) ?_
  generalize eQ : (mRV fun h' => StrZ zT h' ∧ Only gCs h h' ∧ (∀ j : Int, 0 ≤ j → j ≠ 14 → ga h' 161 j = ga h 161 j) ∧ ∀ x y : Int, 0 ≤ x → x < 8 → 0 ≤ y → y < 8 → -68719476736 ≤ ga h' (fR x) y ∧ ga h' (fR x) y ≤ 68719476736 : MO → MH → Prop) = Q
  change MW KX0_gatherForces Q 0 0 (pcA pgX0_gatherForces 0) [(0, (2, ((161 : Nat) : Int)))] [] h
  obtain ⟨n0, en⟩ : ∃ n : Int, ga h 161 0 = n := ⟨_, rfl⟩
  have nb := sz.1
  rw [en] at nb
  obtain ⟨S9, eS⟩ : ∃ f : Int → Int, f = fun b => ga h (sR b) 0 := ⟨_, rfl⟩
  have sb : ∀ b : Int, 0 ≤ b → b < 3 → 1 ≤ S9 b ∧ S9 b ≤ 12 := fun b b0 b1 => by rw [eS]; exact (sz.2 b b0 b1).1
  refine hd_aload pkX0_gatherForces rfl rfl (Int.natCast_nonneg _) ?_
  refine hd_lpush (z := 1) pkX0_gatherForces rfl ?_
  refine hd_putJ pkX0_gatherForces rfl (st_cell g (k := 16) (n := 0) (by decide +kernel)).1 (st_cell g (k := 16) (n := 0) (by decide +kernel)).2.1 (fun hh1 ehh1 => ?_)
  replace ehh1 : hh1 = sa h 161 14 1 := ehh1
  have ghh1 : StrZ zT hh1 := by rw [ehh1]; exact st_fld g (by decide +kernel)
  have o0 : Only [161] h hh1 := by rw [ehh1]; exact (Only.refl [161] h).set List.mem_cons_self
  have f0 : ∀ j : Int, 0 ≤ j → j ≠ 14 → ga hh1 161 j = ga h 161 j := fun j a b => by rw [ehh1, ga_sa _ _ _ (by decide) a, if_neg b]
  have s0 : ga hh1 161 14 = 1 := by rw [ehh1, ga_sa _ _ _ (by decide) (by decide), if_pos rfl]
  refine hd_ipush (z := 0) pkX0_gatherForces rfl ?_
  refine hd_istore pkX0_gatherForces rfl rfl ?_
  change MW _ _ _ _ _ [(1, (0, 0)), (0, (2, ((161 : Nat) : Int)))] _ _
  have lp5 : ∀ (N5 : Nat) (b : Int) (hL : MH), StrZ zT hL → (Only [161] h hL) → (∀ j : Int, 0 ≤ j → j ≠ 14 → ga hL 161 j = ga h 161 j) → (0 ≤ b ∧ b ≤ n0) → (0 ≤ ga hL 161 14 ∧ ga hL 161 14 ≤ spr S9 b.toNat) → n0 - b < (N5 : Int) → MW KX0_gatherForces Q 0 0 (pcA pgX0_gatherForces 5) [(0, (2, ((161 : Nat) : Int))), (1, (0, b))] [] hL := by
    intro N5
    induction N5 with
    | zero => intro b hL g5 oL fL bb sc hm5; exfalso; omega
    | succ N5 ih5 =>
      intro b hL g5 oL fL bb sc hm5
      obtain ⟨sc9, esc⟩ : ∃ x : Int, x = ga hL 161 14 := ⟨_, rfl⟩
      rw [← esc] at sc
      refine hd_iload pkX0_gatherForces rfl rfl ?_
      refine hd_aload pkX0_gatherForces rfl rfl (Int.natCast_nonneg _) ?_
      refine hd_getI pkX0_gatherForces rfl (st_cell g5 (k := 16) (n := 0) (by decide +kernel)).1 (st_cell g5 (k := 16) (n := 0) (by decide +kernel)).2.1 (fun v2 ev2 rv2 => ?_)
      replace ev2 : v2 = ga hL 161 0 := ev2
      have qv2 : n0 = v2 := by rw [ev2, fL 0 (by decide) (by decide)]; exact en.symm
      subst qv2
      refine hd_ic_ge pkX0_gatherForces rfl (fun c3 => ?_) (fun c3 => ?_)
      · skip
        have eb9 : b = n0 := by omega
        rw [eb9] at sc
        have sp := spr_b (s := S9) n0.toNat (by omega) sb
        have L8 : ∀ x : Int, 0 ≤ x → x < n0 → sc9 ≤ 144 * S9 x := fun x x0 x1 => by have := sp.2.2 x x0 (by omega); omega
        have L7 : sc9 ≤ 1728 := by omega
        have cb0 := cube_b (s := 12) sc.1 ⟨by decide, by decide⟩ (by omega) L7
        refine hd_aload pkX0_gatherForces rfl rfl (Int.natCast_nonneg _) ?_
        refine hd_aload pkX0_gatherForces rfl rfl (Int.natCast_nonneg _) ?_
        refine hd_getJ pkX0_gatherForces rfl (st_cell g5 (k := 16) (n := 0) (by decide +kernel)).1 (st_cell g5 (k := 16) (n := 0) (by decide +kernel)).2.1 (fun v4 ev4 rv4 => ?_)
        replace ev4 : v4 = ga hL 161 14 := ev4
        have qv4 : sc9 = v4 := by rw [ev4]; exact esc
        subst qv4
        refine hd_aload pkX0_gatherForces rfl rfl (Int.natCast_nonneg _) ?_
        refine hd_getJ pkX0_gatherForces rfl (st_cell g5 (k := 16) (n := 0) (by decide +kernel)).1 (st_cell g5 (k := 16) (n := 0) (by decide +kernel)).2.1 (fun v5 ev5 rv5 => ?_)
        replace ev5 : v5 = ga hL 161 14 := ev5
        have qv5 : sc9 = v5 := by rw [ev5]; exact esc
        subst qv5
        refine hd_lmul pkX0_gatherForces rfl (by omega) ?_
        refine hd_aload pkX0_gatherForces rfl rfl (Int.natCast_nonneg _) ?_
        refine hd_getJ pkX0_gatherForces rfl (st_cell g5 (k := 16) (n := 0) (by decide +kernel)).1 (st_cell g5 (k := 16) (n := 0) (by decide +kernel)).2.1 (fun v6 ev6 rv6 => ?_)
        replace ev6 : v6 = ga hL 161 14 := ev6
        have qv6 : sc9 = v6 := by rw [ev6]; exact esc
        subst qv6
        refine hd_lmul pkX0_gatherForces rfl (by omega) ?_
        refine hd_putJ pkX0_gatherForces rfl (st_cell g5 (k := 16) (n := 0) (by decide +kernel)).1 (st_cell g5 (k := 16) (n := 0) (by decide +kernel)).2.1 (fun hh7 ehh7 => ?_)
        replace ehh7 : hh7 = sa hL 161 14 ((sc9 * sc9) * sc9) := ehh7
        have ghh7 : StrZ zT hh7 := by rw [ehh7]; exact st_fld g5 (by decide +kernel)
        have o2 : Only [161] h hh7 := by rw [ehh7]; exact oL.set List.mem_cons_self
        have f2 : ∀ j : Int, 0 ≤ j → j ≠ 14 → ga hh7 161 j = ga h 161 j := fun j a b => by rw [ehh7, ga_sa _ _ _ (by decide) a, if_neg b]; exact fL j a b
        have s2 : ga hh7 161 14 = sc9 * sc9 * sc9 := by rw [ehh7, ga_sa _ _ _ (by decide) (by decide), if_pos rfl]
        obtain ⟨S3, eS3⟩ : ∃ x : Int, x = sc9 * sc9 * sc9 := ⟨_, rfl⟩
        rw [← eS3] at s2
        refine hd_ipush (z := 0) pkX0_gatherForces rfl ?_
        refine hd_istore pkX0_gatherForces rfl rfl ?_
        change MW _ _ _ _ _ [(1, (0, 0)), (0, (2, ((161 : Nat) : Int)))] _ _
        have lp46 : ∀ (N46 : Nat) (r : Int) (hF : MH), StrZ zT hF → (Only gCs h hF) → (∀ j : Int, 0 ≤ j → j ≠ 14 → ga hF 161 j = ga h 161 j) → (ga hF 161 14 = S3) → (0 ≤ r ∧ r ≤ 8) → (∀ x y : Int, 0 ≤ x → x < r → 0 ≤ y → y < 8 → ga hF (fR x) y = 0) → (8 : Int) - r < (N46 : Int) → MW KX0_gatherForces Q 0 0 (pcA pgX0_gatherForces 46) [(0, (2, ((161 : Nat) : Int))), (1, (0, r))] [] hF := by
          intro N46
          induction N46 with
          | zero => intro r hF g46 oF fF s3 rb zF hm46; exfalso; omega
          | succ N46 ih46 =>
            intro r hF g46 oF fF s3 rb zF hm46
            refine hd_iload pkX0_gatherForces rfl rfl ?_
            refine hd_ipush (z := 8) pkX0_gatherForces rfl ?_
            refine hd_ic_ge pkX0_gatherForces rfl (fun c8 => ?_) (fun c8 => ?_)
            · skip
              refine hd_ipush (z := 0) pkX0_gatherForces rfl ?_
              refine hd_istore pkX0_gatherForces rfl rfl ?_
              change MW _ _ _ _ _ [(1, (0, 0)), (0, (2, ((161 : Nat) : Int)))] _ _
              have lp59 : ∀ (N59 : Nat) (b : Int) (hB : MH), StrZ zT hB → (Only gCs h hB) → (∀ j : Int, 0 ≤ j → j ≠ 14 → ga hB 161 j = ga h 161 j) → (ga hB 161 14 = S3) → (0 ≤ b ∧ b ≤ n0) → (∀ x y : Int, 0 ≤ x → x < 8 → 0 ≤ y → y < 8 → -(b * 20639121408) ≤ ga hB (fR x) y ∧ ga hB (fR x) y ≤ b * 20639121408) → n0 - b < (N59 : Int) → MW KX0_gatherForces Q 0 0 (pcA pgX0_gatherForces 59) [(0, (2, ((161 : Nat) : Int))), (1, (0, b))] [] hB := by
                intro N59
                induction N59 with
                | zero => intro b hB g59 oB fB sB bb2 F8 hm59; exfalso; omega
                | succ N59 ih59 =>
                  intro b hB g59 oB fB sB bb2 F8 hm59
                  refine hd_iload pkX0_gatherForces rfl rfl ?_
                  refine hd_aload pkX0_gatherForces rfl rfl (Int.natCast_nonneg _) ?_
                  refine hd_getI pkX0_gatherForces rfl (st_cell g59 (k := 16) (n := 0) (by decide +kernel)).1 (st_cell g59 (k := 16) (n := 0) (by decide +kernel)).2.1 (fun v9 ev9 rv9 => ?_)
                  replace ev9 : v9 = ga hB 161 0 := ev9
                  have qv9 : n0 = v9 := by rw [ev9, fB 0 (by decide) (by decide)]; exact en.symm
                  subst qv9
                  refine hd_ic_ge pkX0_gatherForces rfl (fun c10 => ?_) (fun c10 => ?_)
                  · skip
                    refine hd_vret pkX0_gatherForces rfl ?_
                    subst eQ
                    refine ⟨rfl, g59, oB, fB, fun x y x0 x1 y0 y1 => ?_⟩
                    have := F8 x y x0 x1 y0 y1
                    omega
                  · skip
                    have sbb := sb b (by omega) (by omega)
                    have cb := cube_b (L := sc9) (s := S9 b) sc.1 sbb (L8 b (by omega) (by omega)) L7
                    refine hd_aload pkX0_gatherForces rfl rfl (Int.natCast_nonneg _) ?_
                    refine hd_getJ pkX0_gatherForces rfl (st_cell g59 (k := 16) (n := 0) (by decide +kernel)).1 (st_cell g59 (k := 16) (n := 0) (by decide +kernel)).2.1 (fun v11 ev11 rv11 => ?_)
                    replace ev11 : v11 = ga hB 161 14 := ev11
                    have qv11 : S3 = v11 := by rw [ev11]; exact sB.symm
                    subst qv11
                    refine hd_aload pkX0_gatherForces rfl rfl (Int.natCast_nonneg _) ?_
                    refine hd_getR (n := 162) pkX0_gatherForces rfl (st_cell g59 (k := 16) (n := 0) (by decide +kernel)).1 (st_cell g59 (k := 16) (n := 0) (by decide +kernel)).2.1 (st_ref g59 (by decide +kernel)) ?_
                    refine hd_iload pkX0_gatherForces rfl rfl ?_
                    refine hd_aldR (n := 3) pkX0_gatherForces rfl (st_cell g59 (c := 162) (k := 6) (n := 3) (by decide +kernel)) (Or.inl rfl) (by omega) (by omega) (fun v12 ev12 => ?_)
                    rw [st_size g59 ⟨by omega, by omega⟩] at ev12
                    subst v12
                    refine hd_ipush (z := 0) pkX0_gatherForces rfl ?_
                    refine hd_iald (n := 2) pkX0_gatherForces rfl (sR_cell g59 ⟨by omega, by omega⟩) (by omega) (by omega) (fun v13 ev13 rv13 => ?_)
                    have qv13 : S9 b = v13 := by rw [ev13, oB.ga (fun w => by have := sR_b (b := b) ⟨by omega, by omega⟩; have := mem_gCs.mp w; omega), eS]
                    subst qv13
                    refine hd_aload pkX0_gatherForces rfl rfl (Int.natCast_nonneg _) ?_
                    refine hd_getR (n := 162) pkX0_gatherForces rfl (st_cell g59 (k := 16) (n := 0) (by decide +kernel)).1 (st_cell g59 (k := 16) (n := 0) (by decide +kernel)).2.1 (st_ref g59 (by decide +kernel)) ?_
                    refine hd_iload pkX0_gatherForces rfl rfl ?_
                    refine hd_aldR (n := 3) pkX0_gatherForces rfl (st_cell g59 (c := 162) (k := 6) (n := 3) (by decide +kernel)) (Or.inl rfl) (by omega) (by omega) (fun v14 ev14 => ?_)
                    rw [st_size g59 ⟨by omega, by omega⟩] at ev14
                    subst v14
                    refine hd_ipush (z := 0) pkX0_gatherForces rfl ?_
                    refine hd_iald (n := 2) pkX0_gatherForces rfl (sR_cell g59 ⟨by omega, by omega⟩) (by omega) (by omega) (fun v15 ev15 rv15 => ?_)
                    have qv15 : S9 b = v15 := by rw [ev15, oB.ga (fun w => by have := sR_b (b := b) ⟨by omega, by omega⟩; have := mem_gCs.mp w; omega), eS]
                    subst qv15
                    refine hd_imul pkX0_gatherForces rfl (by omega) ?_
                    refine hd_aload pkX0_gatherForces rfl rfl (Int.natCast_nonneg _) ?_
                    refine hd_getR (n := 162) pkX0_gatherForces rfl (st_cell g59 (k := 16) (n := 0) (by decide +kernel)).1 (st_cell g59 (k := 16) (n := 0) (by decide +kernel)).2.1 (st_ref g59 (by decide +kernel)) ?_
                    refine hd_iload pkX0_gatherForces rfl rfl ?_
                    refine hd_aldR (n := 3) pkX0_gatherForces rfl (st_cell g59 (c := 162) (k := 6) (n := 3) (by decide +kernel)) (Or.inl rfl) (by omega) (by omega) (fun v16 ev16 => ?_)
                    rw [st_size g59 ⟨by omega, by omega⟩] at ev16
                    subst v16
                    refine hd_ipush (z := 0) pkX0_gatherForces rfl ?_
                    refine hd_iald (n := 2) pkX0_gatherForces rfl (sR_cell g59 ⟨by omega, by omega⟩) (by omega) (by omega) (fun v17 ev17 rv17 => ?_)
                    have qv17 : S9 b = v17 := by rw [ev17, oB.ga (fun w => by have := sR_b (b := b) ⟨by omega, by omega⟩; have := mem_gCs.mp w; omega), eS]
                    subst qv17
                    refine hd_imul pkX0_gatherForces rfl (by omega) ?_
                    refine hd_i2l pkX0_gatherForces rfl ?_
                    refine hd_ldiv pkX0_gatherForces rfl (by omega) (by rw [eS3]; omega) ?_
                    generalize eq9 : (Int.tdiv S3 (((S9 b) * (S9 b)) * (S9 b))) = q9
                    rw [eS3] at eq9
                    have q9b : 0 ≤ q9 ∧ q9 ≤ 2985984 := by rw [← eq9]; exact cb.2.2.2.2
                    refine hd_aload pkX0_gatherForces rfl rfl (Int.natCast_nonneg _) ?_
                    refine hd_getR (n := 162) pkX0_gatherForces rfl (st_cell g59 (k := 16) (n := 0) (by decide +kernel)).1 (st_cell g59 (k := 16) (n := 0) (by decide +kernel)).2.1 (st_ref g59 (by decide +kernel)) ?_
                    refine hd_iload pkX0_gatherForces rfl rfl ?_
                    refine hd_aldR (n := 3) pkX0_gatherForces rfl (st_cell g59 (c := 162) (k := 6) (n := 3) (by decide +kernel)) (Or.inl rfl) (by omega) (by omega) (fun v18 ev18 => ?_)
                    rw [st_size g59 ⟨by omega, by omega⟩] at ev18
                    subst v18
                    refine hd_ipush (z := 1) pkX0_gatherForces rfl ?_
                    refine hd_iald (n := 2) pkX0_gatherForces rfl (sR_cell g59 ⟨by omega, by omega⟩) (by omega) (by omega) (fun v19 ev19 rv19 => ?_)
                    have stb : 1 ≤ v19 ∧ v19 ≤ 12 := by rw [ev19, oB.ga (fun w => by have := sR_b (b := b) ⟨by omega, by omega⟩; have := mem_gCs.mp w; omega)]; exact (sz.2 b (by omega) (by omega)).2
                    refine hd_i2l pkX0_gatherForces rfl ?_
                    have w94 := mul_ab (x := q9) (y := v19) (a := 2985984) (b := 12) ⟨by omega, by omega⟩ ⟨by omega, by omega⟩
                    refine hd_lmul pkX0_gatherForces rfl (by omega) ?_
                    generalize eby9 : (q9 * v19) = by9
                    rw [eby9] at w94
                    have byb : -35831808 ≤ by9 ∧ by9 ≤ 35831808 := by omega
                    refine hd_lstore pkX0_gatherForces rfl rfl ?_
                    change MW _ _ _ _ _ [(2, (1, by9)), (0, (2, ((161 : Nat) : Int))), (1, (0, b))] _ _
                    refine hd_ipush (z := 0) pkX0_gatherForces rfl ?_
                    refine hd_istore pkX0_gatherForces rfl rfl ?_
                    change MW _ _ _ _ _ [(4, (0, 0)), (2, (1, by9)), (0, (2, ((161 : Nat) : Int))), (1, (0, b))] _ _
                    have lp98 : ∀ (N98 : Nat) (r : Int) (hR : MH), StrZ zT hR → (Only gCs h hR) → (∀ j : Int, 0 ≤ j → j ≠ 14 → ga hR 161 j = ga h 161 j) → (ga hR 161 14 = S3) → (0 ≤ r ∧ r ≤ 4) → (∀ x y : Int, 0 ≤ x → x < 8 → 0 ≤ y → y < 8 → -((b + 1) * 20639121408) ≤ ga hR (fR x) y ∧ ga hR (fR x) y ≤ (b + 1) * 20639121408) → (∀ x y : Int, 2 * b + r ≤ x → x < 8 → 0 ≤ y → y < 8 → -(b * 20639121408) ≤ ga hR (fR x) y ∧ ga hR (fR x) y ≤ b * 20639121408) → (4 : Int) - r < (N98 : Int) → MW KX0_gatherForces Q 0 0 (pcA pgX0_gatherForces 98) [(0, (2, ((161 : Nat) : Int))), (1, (0, b)), (2, (1, by9)), (4, (0, r))] [] hR := by
                      intro N98
                      induction N98 with
                      | zero => intro r hR g98 oR fQ sQ rb2 Fa Fb hm98; exfalso; omega
                      | succ N98 ih98 =>
                        intro r hR g98 oR fQ sQ rb2 Fa Fb hm98
                        refine hd_iload pkX0_gatherForces rfl rfl ?_
                        refine hd_ipush (z := 4) pkX0_gatherForces rfl ?_
                        refine hd_ic_ge pkX0_gatherForces rfl (fun c20 => ?_) (fun c20 => ?_)
                        · skip
                          refine hd_iinc (z := 1) pkX0_gatherForces rfl rfl (by omega) rfl ?_
                          change MW _ _ _ _ _ [(1, (0, (b + 1))), (0, (2, ((161 : Nat) : Int))), (2, (1, by9)), (4, (0, r))] _ _
                          refine hd_goto pkX0_gatherForces rfl ?_
                          refine m_sub [(0, (2, ((161 : Nat) : Int))), (1, (0, (b + 1)))] (List.forall_mem_cons.mpr ⟨rfl, List.forall_mem_cons.mpr ⟨rfl, fun _ h => absurd h List.not_mem_nil⟩⟩) ?_
                          refine ih59  ((b + 1)) hR g98 ?_ ?_ ?_ ?_ ?_ ?_
                          · exact oR
                          · exact fQ
                          · exact sQ
                          · omega
                          · exact Fa
                          · omega
                        · skip
                          refine hd_ipush (z := 0) pkX0_gatherForces rfl ?_
                          refine hd_istore pkX0_gatherForces rfl rfl ?_
                          change MW _ _ _ _ _ [(5, (0, 0)), (0, (2, ((161 : Nat) : Int))), (1, (0, b)), (2, (1, by9)), (4, (0, r))] _ _
                          have lp103 : ∀ (N103 : Nat) (c : Int) (hC : MH), StrZ zT hC → (Only gCs h hC) → (∀ j : Int, 0 ≤ j → j ≠ 14 → ga hC 161 j = ga h 161 j) → (ga hC 161 14 = S3) → (0 ≤ c ∧ c ≤ 4) → (∀ x y : Int, 0 ≤ x → x < 8 → 0 ≤ y → y < 8 → -((b + 1) * 20639121408) ≤ ga hC (fR x) y ∧ ga hC (fR x) y ≤ (b + 1) * 20639121408) → (∀ x y : Int, (2 * b + r < x ∨ (x = 2 * b + r ∧ 2 * b + c ≤ y)) → x < 8 → 0 ≤ y → y < 8 → -(b * 20639121408) ≤ ga hC (fR x) y ∧ ga hC (fR x) y ≤ b * 20639121408) → (4 : Int) - c < (N103 : Int) → MW KX0_gatherForces Q 0 0 (pcA pgX0_gatherForces 103) [(0, (2, ((161 : Nat) : Int))), (1, (0, b)), (2, (1, by9)), (4, (0, r)), (5, (0, c))] [] hC := by
                            intro N103
                            induction N103 with
                            | zero => intro c hC g103 oC fC sC cb9 Ga Gb hm103; exfalso; omega
                            | succ N103 ih103 =>
                              intro c hC g103 oC fC sC cb9 Ga Gb hm103
                              refine hd_iload pkX0_gatherForces rfl rfl ?_
                              refine hd_ipush (z := 4) pkX0_gatherForces rfl ?_
                              refine hd_ic_ge pkX0_gatherForces rfl (fun c21 => ?_) (fun c21 => ?_)
                              · skip
                                refine hd_iinc (z := 1) pkX0_gatherForces rfl rfl (by omega) rfl ?_
                                change MW _ _ _ _ _ [(4, (0, (r + 1))), (0, (2, ((161 : Nat) : Int))), (1, (0, b)), (2, (1, by9)), (5, (0, c))] _ _
                                refine hd_goto pkX0_gatherForces rfl ?_
                                refine m_sub [(0, (2, ((161 : Nat) : Int))), (1, (0, b)), (2, (1, by9)), (4, (0, (r + 1)))] (List.forall_mem_cons.mpr ⟨rfl, List.forall_mem_cons.mpr ⟨rfl, List.forall_mem_cons.mpr ⟨rfl, List.forall_mem_cons.mpr ⟨rfl, fun _ h => absurd h List.not_mem_nil⟩⟩⟩⟩) ?_
                                refine ih98  ((r + 1)) hC g103 ?_ ?_ ?_ ?_ ?_ ?_ ?_
                                · exact oC
                                · exact fC
                                · exact sC
                                · omega
                                · exact Ga
                                · intro x y _ x1 y0 y1
                                  exact Gb x y (by omega) x1 y0 y1
                                · omega
                              · skip
                                have szC : SZ0 hC := sz.only oC (fC 0 (by decide) (by decide))
                                refine hd_aload pkX0_gatherForces rfl rfl (Int.natCast_nonneg _) ?_
                                refine hd_getR (n := 182) pkX0_gatherForces rfl (st_cell g103 (k := 16) (n := 0) (by decide +kernel)).1 (st_cell g103 (k := 16) (n := 0) (by decide +kernel)).2.1 (st_ref g103 (by decide +kernel)) ?_
                                refine hd_ipush (z := 2) pkX0_gatherForces rfl ?_
                                refine hd_iload pkX0_gatherForces rfl rfl ?_
                                refine hd_imul pkX0_gatherForces rfl (by omega) ?_
                                refine hd_iload pkX0_gatherForces rfl rfl ?_
                                refine hd_iadd pkX0_gatherForces rfl (by omega) ?_
                                refine hd_aldR (n := 8) pkX0_gatherForces rfl (st_cell g103 (c := 182) (k := 7) (n := 8) (by decide +kernel)) (Or.inr (Or.inl rfl)) (by omega) (by omega) (fun v22 ev22 => ?_)
                                rw [st_force g103 ⟨by omega, by omega⟩] at ev22
                                subst v22
                                refine hd_ipush (z := 2) pkX0_gatherForces rfl ?_
                                refine hd_iload pkX0_gatherForces rfl rfl ?_
                                refine hd_imul pkX0_gatherForces rfl (by omega) ?_
                                refine hd_iload pkX0_gatherForces rfl rfl ?_
                                refine hd_iadd pkX0_gatherForces rfl (by omega) ?_
                                refine hd_dup2 pkX0_gatherForces rfl rfl rfl ?_
                                refine hd_lald (n := 8) pkX0_gatherForces rfl (fR_cell g103 ⟨by omega, by omega⟩) (by omega) (by omega) (fun v23 ev23 rv23 => ?_)
                                have vb := Gb (2 * b + r) (2 * b + c) (Or.inr ⟨rfl, Int.le_refl _⟩) (by omega) (by omega) (by omega)
                                rw [← ev23] at vb
                                refine hd_lload pkX0_gatherForces rfl rfl ?_
                                refine hd_aload pkX0_gatherForces rfl rfl (Int.natCast_nonneg _) ?_
                                refine hd_iload pkX0_gatherForces rfl rfl ?_
                                refine hd_iload pkX0_gatherForces rfl rfl ?_
                                refine hd_iload pkX0_gatherForces rfl rfl ?_
                                refine hd_callV pkX0_gatherForces rfl (q := (KX0_endForce, yX0_endForce, 0, 3, 0)) rfl rfl rfl (As := [(0, b), (0, r), (0, c)]) (rest := [(1, by9), (1, v23), (0, ((2 * b) + c)), (2, ((fR ((2 * b) + r) : Nat) : Int))]) (c := 161) rfl rfl (Nat.le_of_ble_eq_true rfl) (st_cell g103 (k := 16) (n := 0) (by decide +kernel)).1 (st_cell g103 (k := 16) (n := 0) (by decide +kernel)).2.1 (h_X0_endForce ⟨by omega, by omega⟩ ⟨by omega, by omega⟩ ⟨by omega, by omega⟩ szC g103) (hd_bI (fun ef hc24 pe => ?_))
                                obtain ⟨pe, ehc24⟩ := pe
                                replace ehc24 := ehc24.symm
                                subst ehc24
                                refine hd_i2l pkX0_gatherForces rfl ?_
                                have w128 := mul_ab (x := by9) (y := ef) (a := 35831808) (b := 576) byb pe
                                refine hd_lmul pkX0_gatherForces rfl (by omega) ?_
                                generalize epr : (by9 * ef) = pr
                                rw [epr] at w128
                                refine hd_ladd pkX0_gatherForces rfl (by omega) ?_
                                generalize env : (v23 + pr) = nv
                                refine hd_last (n := 8) pkX0_gatherForces rfl (fR_cell g103 ⟨by omega, by omega⟩) (by first | decide | (unfold fR; omega)) (by omega) (by omega) (fun hh25 ehh25 => ?_)
                                have ghh25 : StrZ zT hh25 := by rw [ehh25]; exact st_arr g103 (fR_k ⟨by omega, by omega⟩)
                                have o5 : Only [fR (2 * b + r)] hC hh25 := by rw [ehh25]; exact (Only.refl _ _).set List.mem_cons_self
                                have o6 : Only gCs h hh25 := oC.trans (o5.mono (fun c hc => by rw [List.mem_singleton] at hc; have := fR_b (r := 2 * b + r) ⟨by omega, by omega⟩; exact mem_gCs.mpr (by omega)))
                                have f6 : ∀ j : Int, 0 ≤ j → j ≠ 14 → ga hh25 161 j = ga h 161 j := fun j a0 a1 => (o5.ga (fun w => by have := fR_b (r := 2 * b + r) ⟨by omega, by omega⟩; rw [List.mem_singleton] at w; omega) j).trans (fC j a0 a1)
                                have s6 : ga hh25 161 14 = S3 := (o5.ga (fun w => by have := fR_b (r := 2 * b + r) ⟨by omega, by omega⟩; rw [List.mem_singleton] at w; omega) 14).trans sC
                                have w6 : ∀ y : Int, 0 ≤ y → ga hh25 (fR (2 * b + r)) y = if y = 2 * b + c then nv else ga hC (fR (2 * b + r)) y := fun y y0 => by rw [ehh25]; exact ga_sa _ _ _ (by omega) y0
                                have k6 : ∀ x y : Int, 0 ≤ x → x ≠ 2 * b + r → ga hh25 (fR x) y = ga hC (fR x) y := fun x y x0 q => o5.ga (fun w => fR_inj x0 (by omega) q (List.mem_singleton.mp w)) y
                                refine hd_iinc (z := 1) pkX0_gatherForces rfl rfl (by omega) rfl ?_
                                change MW _ _ _ _ _ [(5, (0, (c + 1))), (0, (2, ((161 : Nat) : Int))), (1, (0, b)), (2, (1, by9)), (4, (0, r))] _ _
                                refine hd_goto pkX0_gatherForces rfl ?_
                                refine m_sub [(0, (2, ((161 : Nat) : Int))), (1, (0, b)), (2, (1, by9)), (4, (0, r)), (5, (0, (c + 1)))] (List.forall_mem_cons.mpr ⟨rfl, List.forall_mem_cons.mpr ⟨rfl, List.forall_mem_cons.mpr ⟨rfl, List.forall_mem_cons.mpr ⟨rfl, List.forall_mem_cons.mpr ⟨rfl, fun _ h => absurd h List.not_mem_nil⟩⟩⟩⟩⟩) ?_
                                refine ih103  ((c + 1)) hh25 ghh25 ?_ ?_ ?_ ?_ ?_ ?_ ?_
                                · exact o6
                                · exact f6
                                · exact s6
                                · omega
                                · intro x y x0 x1 y0 y1
                                  by_cases q : x = 2 * b + r
                                  · rw [q, w6 y y0]
                                    split
                                    · omega
                                    · exact Ga _ y (by omega) (by omega) y0 y1
                                  · rw [k6 x y x0 q]
                                    exact Ga x y x0 x1 y0 y1
                                · intro x y h1 x1 y0 y1
                                  by_cases q : x = 2 * b + r
                                  · rw [q, w6 y y0, if_neg (by omega)]
                                    exact Gb _ y (Or.inr ⟨rfl, by omega⟩) (by omega) y0 y1
                                  · rw [k6 x y (by omega) q]
                                    exact Gb x y (by omega) x1 y0 y1
                                · omega
                          refine m_sub [(0, (2, ((161 : Nat) : Int))), (1, (0, b)), (2, (1, by9)), (4, (0, r)), (5, (0, 0))] (List.forall_mem_cons.mpr ⟨rfl, List.forall_mem_cons.mpr ⟨rfl, List.forall_mem_cons.mpr ⟨rfl, List.forall_mem_cons.mpr ⟨rfl, List.forall_mem_cons.mpr ⟨rfl, fun _ h => absurd h List.not_mem_nil⟩⟩⟩⟩⟩) ?_
                          refine lp103 (((4 : Int) - (0)) + 1).toNat (0) hR g98 ?_ ?_ ?_ ?_ ?_ ?_ ?_
                          · exact oR
                          · exact fQ
                          · exact sQ
                          · omega
                          · exact Fa
                          · intro x y _ x1 y0 y1
                            exact Fb x y (by omega) x1 y0 y1
                          · omega
                    refine m_sub [(0, (2, ((161 : Nat) : Int))), (1, (0, b)), (2, (1, by9)), (4, (0, 0))] (List.forall_mem_cons.mpr ⟨rfl, List.forall_mem_cons.mpr ⟨rfl, List.forall_mem_cons.mpr ⟨rfl, List.forall_mem_cons.mpr ⟨rfl, fun _ h => absurd h List.not_mem_nil⟩⟩⟩⟩) ?_
                    refine lp98 (((4 : Int) - (0)) + 1).toNat (0) hB g59 ?_ ?_ ?_ ?_ ?_ ?_ ?_
                    · exact oB
                    · exact fB
                    · exact sB
                    · omega
                    · intro x y x0 x1 y0 y1
                      have := F8 x y x0 x1 y0 y1
                      omega
                    · intro x y _ x1 y0 y1
                      exact F8 x y (by omega) x1 y0 y1
                    · omega
              refine m_sub [(0, (2, ((161 : Nat) : Int))), (1, (0, 0))] (List.forall_mem_cons.mpr ⟨rfl, List.forall_mem_cons.mpr ⟨rfl, fun _ h => absurd h List.not_mem_nil⟩⟩) ?_
              refine lp59 ((n0 - (0)) + 1).toNat (0) hF g46 ?_ ?_ ?_ ?_ ?_ ?_
              · exact oF
              · exact fF
              · exact s3
              · omega
              · intro x y x0 x1 y0 y1
                rw [zF x y x0 (by omega) y0 y1]
                omega
              · omega
            · skip
              refine hd_aload pkX0_gatherForces rfl rfl (Int.natCast_nonneg _) ?_
              refine hd_getR (n := 182) pkX0_gatherForces rfl (st_cell g46 (k := 16) (n := 0) (by decide +kernel)).1 (st_cell g46 (k := 16) (n := 0) (by decide +kernel)).2.1 (st_ref g46 (by decide +kernel)) ?_
              refine hd_iload pkX0_gatherForces rfl rfl ?_
              refine hd_aldR (n := 8) pkX0_gatherForces rfl (st_cell g46 (c := 182) (k := 7) (n := 8) (by decide +kernel)) (Or.inr (Or.inl rfl)) (by omega) (by omega) (fun v26 ev26 => ?_)
              rw [st_force g46 ⟨by omega, by omega⟩] at ev26
              subst v26
              refine hd_lpush (z := 0) pkX0_gatherForces rfl ?_
              refine hd_fillJ (m := 22) (i := 54) (by decide) rfl (n := 8) (fR_cell g46 ⟨by omega, by omega⟩) (by unfold fR; omega) (by decide) (Nat.le_of_ble_eq_true rfl) (fun hh27 ehh27 => ?_)
              have ghh27 : StrZ zT hh27 := by rw [ehh27]; exact st_fill g46 (fR_k ⟨by omega, by omega⟩)
              have o4 : Only [fR r] hF hh27 := by rw [ehh27]; exact only_fill
              have o3 : Only gCs h hh27 := oF.trans (o4.mono (fun c hc => by rw [List.mem_singleton] at hc; have := fR_b (r := r) ⟨by omega, by omega⟩; exact mem_gCs.mpr (by omega)))
              have f3 : ∀ j : Int, 0 ≤ j → j ≠ 14 → ga hh27 161 j = ga h 161 j := fun j a b => (o4.ga (fun w => by have := fR_b (r := r) ⟨by omega, by omega⟩; rw [List.mem_singleton] at w; omega) j).trans (fF j a b)
              have s4 : ga hh27 161 14 = S3 := (o4.ga (fun w => by have := fR_b (r := r) ⟨by omega, by omega⟩; rw [List.mem_singleton] at w; omega) 14).trans s3
              have z4 : ∀ y : Int, 0 ≤ y → y < 8 → ga hh27 (fR r) y = 0 := fun y y0 y1 => by rw [ehh27]; exact (ga_fill (b := 8) (by decide) y0).trans (if_pos y1)
              refine hd_iinc (z := 1) pkX0_gatherForces rfl rfl (by omega) rfl ?_
              change MW _ _ _ _ _ [(1, (0, (r + 1))), (0, (2, ((161 : Nat) : Int)))] _ _
              refine hd_goto pkX0_gatherForces rfl ?_
              refine m_sub [(0, (2, ((161 : Nat) : Int))), (1, (0, (r + 1)))] (List.forall_mem_cons.mpr ⟨rfl, List.forall_mem_cons.mpr ⟨rfl, fun _ h => absurd h List.not_mem_nil⟩⟩) ?_
              refine ih46  ((r + 1)) hh27 ghh27 ?_ ?_ ?_ ?_ ?_ ?_
              · exact o3
              · exact f3
              · exact s4
              · omega
              · intro x y x0 x1 y0 y1
                by_cases q : x = r
                · rw [q]
                  exact z4 y y0 y1
                · rw [o4.ga (fun w => fR_inj x0 rb.1 q (List.mem_singleton.mp w))]
                  exact zF x y x0 (by omega) y0 y1
              · omega
        refine m_sub [(0, (2, ((161 : Nat) : Int))), (1, (0, 0))] (List.forall_mem_cons.mpr ⟨rfl, List.forall_mem_cons.mpr ⟨rfl, fun _ h => absurd h List.not_mem_nil⟩⟩) ?_
        refine lp46 (((8 : Int) - (0)) + 1).toNat (0) hh7 ghh7 ?_ ?_ ?_ ?_ ?_ ?_
        · exact o2.mono (fun c hc => mem_gCs.mpr (Or.inl (List.mem_singleton.mp hc)))
        · exact f2
        · exact s2
        · omega
        · intro x y x0 x1
          omega
        · omega
      · skip
        have sp := spr_b (s := S9) b.toNat (by omega) sb
        have sbb := sb b (by omega) (by omega)
        refine hd_aload pkX0_gatherForces rfl rfl (Int.natCast_nonneg _) ?_
        refine hd_aload pkX0_gatherForces rfl rfl (Int.natCast_nonneg _) ?_
        refine hd_getJ pkX0_gatherForces rfl (st_cell g5 (k := 16) (n := 0) (by decide +kernel)).1 (st_cell g5 (k := 16) (n := 0) (by decide +kernel)).2.1 (fun v28 ev28 rv28 => ?_)
        replace ev28 : v28 = ga hL 161 14 := ev28
        have qv28 : sc9 = v28 := by rw [ev28]; exact esc
        subst qv28
        refine hd_aload pkX0_gatherForces rfl rfl (Int.natCast_nonneg _) ?_
        refine hd_getJ pkX0_gatherForces rfl (st_cell g5 (k := 16) (n := 0) (by decide +kernel)).1 (st_cell g5 (k := 16) (n := 0) (by decide +kernel)).2.1 (fun v29 ev29 rv29 => ?_)
        replace ev29 : v29 = ga hL 161 14 := ev29
        have qv29 : sc9 = v29 := by rw [ev29]; exact esc
        subst qv29
        refine hd_aload pkX0_gatherForces rfl rfl (Int.natCast_nonneg _) ?_
        refine hd_getR (n := 162) pkX0_gatherForces rfl (st_cell g5 (k := 16) (n := 0) (by decide +kernel)).1 (st_cell g5 (k := 16) (n := 0) (by decide +kernel)).2.1 (st_ref g5 (by decide +kernel)) ?_
        refine hd_iload pkX0_gatherForces rfl rfl ?_
        refine hd_aldR (n := 3) pkX0_gatherForces rfl (st_cell g5 (c := 162) (k := 6) (n := 3) (by decide +kernel)) (Or.inl rfl) (by omega) (by omega) (fun v30 ev30 => ?_)
        rw [st_size g5 ⟨by omega, by omega⟩] at ev30
        subst v30
        refine hd_ipush (z := 0) pkX0_gatherForces rfl ?_
        refine hd_iald (n := 2) pkX0_gatherForces rfl (sR_cell g5 ⟨by omega, by omega⟩) (by omega) (by omega) (fun v31 ev31 rv31 => ?_)
        have qv31 : S9 b = v31 := by rw [ev31, oL.ga (fun w => by have := sR_b (b := b) ⟨by omega, by omega⟩; rw [List.mem_singleton] at w; omega), eS]
        subst qv31
        refine hd_i2l pkX0_gatherForces rfl ?_
        refine hd_callX (m := 22) (i := 21) (by decide) rfl (q := (KX11_common, yX11_common, 11, 2, 1)) rfl rfl rfl (As := [(1, sc9), (1, (S9 b))]) (rest := [(1, sc9), (2, ((161 : Nat) : Int))]) rfl rfl (Nat.le_of_ble_eq_true rfl) (h_X11_common (a := sc9) (b := S9 b) sc.1 (by have := sb b (by omega) (by omega); omega)) (hd_bL (fun gd hc32 pg => ?_))
        obtain ⟨pg, ehc32⟩ := pg
        replace ehc32 := ehc32.symm
        subst ehc32
        have w22 := tdiv0 (x := sc9) (y := gd) sc.1 pg
        refine hd_ldiv pkX0_gatherForces rfl (by omega) (by omega) ?_
        generalize ed9 : (Int.tdiv sc9 gd) = d9
        rw [ed9] at w22
        refine hd_aload pkX0_gatherForces rfl rfl (Int.natCast_nonneg _) ?_
        refine hd_getR (n := 162) pkX0_gatherForces rfl (st_cell g5 (k := 16) (n := 0) (by decide +kernel)).1 (st_cell g5 (k := 16) (n := 0) (by decide +kernel)).2.1 (st_ref g5 (by decide +kernel)) ?_
        refine hd_iload pkX0_gatherForces rfl rfl ?_
        refine hd_aldR (n := 3) pkX0_gatherForces rfl (st_cell g5 (c := 162) (k := 6) (n := 3) (by decide +kernel)) (Or.inl rfl) (by omega) (by omega) (fun v33 ev33 => ?_)
        rw [st_size g5 ⟨by omega, by omega⟩] at ev33
        subst v33
        refine hd_ipush (z := 0) pkX0_gatherForces rfl ?_
        refine hd_iald (n := 2) pkX0_gatherForces rfl (sR_cell g5 ⟨by omega, by omega⟩) (by omega) (by omega) (fun v34 ev34 rv34 => ?_)
        have qv34 : S9 b = v34 := by rw [ev34, oL.ga (fun w => by have := sR_b (b := b) ⟨by omega, by omega⟩; rw [List.mem_singleton] at w; omega), eS]
        subst qv34
        refine hd_i2l pkX0_gatherForces rfl ?_
        have w30 := mul_ab (x := d9) (y := S9 b) (a := 1728) (b := 12) ⟨by omega, by omega⟩ ⟨by omega, by omega⟩
        refine hd_lmul pkX0_gatherForces rfl (by omega) ?_
        generalize em9 : (d9 * (S9 b)) = m9
        have m1 : 0 ≤ m9 := by rw [← em9]; exact Int.mul_nonneg w22.1 (by omega)
        have m2 : m9 ≤ spr S9 b.toNat * S9 b := by rw [← em9]; exact Int.mul_le_mul_of_nonneg_right (by omega) (by omega)
        refine hd_putJ pkX0_gatherForces rfl (st_cell g5 (k := 16) (n := 0) (by decide +kernel)).1 (st_cell g5 (k := 16) (n := 0) (by decide +kernel)).2.1 (fun hh35 ehh35 => ?_)
        replace ehh35 : hh35 = sa hL 161 14 m9 := ehh35
        have ghh35 : StrZ zT hh35 := by rw [ehh35]; exact st_fld g5 (by decide +kernel)
        have o1 : Only [161] h hh35 := by rw [ehh35]; exact oL.set List.mem_cons_self
        have f1 : ∀ j : Int, 0 ≤ j → j ≠ 14 → ga hh35 161 j = ga h 161 j := fun j a b => by rw [ehh35, ga_sa _ _ _ (by decide) a, if_neg b]; exact fL j a b
        have s1 : ga hh35 161 14 = m9 := by rw [ehh35, ga_sa _ _ _ (by decide) (by decide), if_pos rfl]
        refine hd_iinc (z := 1) pkX0_gatherForces rfl rfl (by omega) rfl ?_
        change MW _ _ _ _ _ [(1, (0, (b + 1))), (0, (2, ((161 : Nat) : Int)))] _ _
        refine hd_goto pkX0_gatherForces rfl ?_
        refine m_sub [(0, (2, ((161 : Nat) : Int))), (1, (0, (b + 1)))] (List.forall_mem_cons.mpr ⟨rfl, List.forall_mem_cons.mpr ⟨rfl, fun _ h => absurd h List.not_mem_nil⟩⟩) ?_
        refine ih5  ((b + 1)) hh35 ghh35 ?_ ?_ ?_ ?_ ?_
        · exact o1
        · exact f1
        · omega
        · rw [s1, show (b + 1).toNat = b.toNat + 1 by omega]
          refine ⟨m1, ?_⟩
          show m9 ≤ spr S9 b.toNat * S9 ((b.toNat : Nat) : Int)
          rw [show ((b.toNat : Nat) : Int) = b by omega]
          exact m2
        · omega
  refine m_sub [(0, (2, ((161 : Nat) : Int))), (1, (0, 0))] (List.forall_mem_cons.mpr ⟨rfl, List.forall_mem_cons.mpr ⟨rfl, fun _ h => absurd h List.not_mem_nil⟩⟩) ?_
  refine lp5 ((n0 - (0)) + 1).toNat (0) hh1 ghh1 ?_ ?_ ?_ ?_ ?_
  · exact o0
  · exact f0
  · omega
  · rw [s0]
    exact ⟨by decide, Int.le_refl _⟩
  · omega
