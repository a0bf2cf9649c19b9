/-! X0 by hand: prepare -/
set_option maxRecDepth 20000 in
set_option maxHeartbeats 8000000 in
theorem h_X0_prepare {h : MH} (sz : SZ0 h) (ed : ED h) (nf : 0 ≤ ga h 161 12 ∧ ga h 161 12 ≤ 8) (mv : ∀ j : Int, 0 ≤ j → j < 8 → 0 ≤ ga h 181 j ∧ ga h 181 j ≤ 7) (g : StrZ zT h) : MCal KX0_prepare yX0_prepare 0 0 [(2, ((161 : Nat) : Int))] h (mRV fun h' => StrZ zT h' ∧ Only pCs h h' ∧ (∀ j : Int, 0 ≤ j → j ≠ 9 → j ≠ 10 → j ≠ 12 → j ≠ 14 → ga h' 161 j = ga h 161 j) ∧ ((ga h' 161 9 = ga h 161 9 ∧ ga h' 161 12 = ga h 161 12) ∨ (ga h 161 9 = 0 ∧ ga h' 161 9 = 1)) ∧ ED h' ∧ (0 ≤ ga h' 161 12 ∧ ga h' 161 12 ≤ 8) ∧ ∀ j : Int, 0 ≤ j → j < 8 → 0 ≤ ga h' 181 j ∧ ga h' 181 j ≤ 7) := by
  refine MCal.ofMW (Or.inl rfl) ⟨cp_X0, rfl⟩ (Nat.le_of_ble_eq_true rfl) ?_
  generalize eQ : (mRV fun h' => StrZ zT h' ∧ Only pCs h h' ∧ (∀ j : Int, 0 ≤ j → j ≠ 9 → j ≠ 10 → j ≠ 12 → j ≠ 14 → ga h' 161 j = ga h 161 j) ∧ ((ga h' 161 9 = ga h 161 9 ∧ ga h' 161 12 = ga h 161 12) ∨ (ga h 161 9 = 0 ∧ ga h' 161 9 = 1)) ∧ ED h' ∧ (0 ≤ ga h' 161 12 ∧ ga h' 161 12 ≤ 8) ∧ ∀ j : Int, 0 ≤ j → j < 8 → 0 ≤ ga h' 181 j ∧ ga h' 181 j ≤ 7 : MO → MH → Prop) = Q
  change MW KX0_prepare Q 0 0 (pcA pgX0_prepare 0) [(0, (2, ((161 : Nat) : Int)))] [] h
  obtain ⟨n0, en⟩ : ∃ n : Int, ga h 161 0 = n := ⟨_, rfl⟩
  have nb := sz.1
  rw [en] at nb
  refine hd_aload pkX0_prepare rfl rfl (Int.natCast_nonneg _) ?_
  refine hd_getZ pkX0_prepare rfl (st_cell g (k := 16) (n := 0) (by decide +kernel)).1 (st_cell g (k := 16) (n := 0) (by decide +kernel)).2.1 (fun v1 ev1 rv1 => ?_)
  replace ev1 : v1 = ga h 161 9 := ev1
  have vz := ev1
  refine hd_if_eq pkX0_prepare rfl (fun c2 => ?_) (fun c2 => ?_)
  · skip
    have ev0 : ga h 161 9 = 0 := by omega
    refine hd_aload pkX0_prepare rfl rfl (Int.natCast_nonneg _) ?_
    refine hd_ipush (z := 1) pkX0_prepare rfl ?_
    refine hd_putZ pkX0_prepare rfl (st_cell g (k := 16) (n := 0) (by decide +kernel)).1 (st_cell g (k := 16) (n := 0) (by decide +kernel)).2.1 (by omega) (fun hh3 ehh3 => ?_)
    replace ehh3 : hh3 = sa h 161 9 1 := ehh3
    have ghh3 : StrZ zT hh3 := by rw [ehh3]; exact st_fld g (by decide +kernel)
    have u1 : Only [161] h hh3 := by rw [ehh3]; exact (Only.refl _ _).set List.mem_cons_self
    have f1 : ∀ j : Int, 0 ≤ j → j ≠ 9 → ga hh3 161 j = ga h 161 j := fun j a b => by rw [ehh3, ga_sa _ _ _ (by decide) a, if_neg b]
    have o1 : Only pCs h hh3 := u1.mono (fun c hc => mem_pCs.mpr (Or.inl (List.mem_singleton.mp hc)))
    have sz1 : SZ0 hh3 := sz.onlyP o1 (f1 0 (by decide) (by decide))
    have d1 : ED hh3 := ed.ol u1 (by decide)
    have n1 : ga hh3 161 9 = 1 := by rw [ehh3, ga_sa _ _ _ (by decide) (by decide), if_pos rfl]
    obtain ⟨h1, eh1⟩ : ∃ x : MH, x = hh3 := ⟨_, rfl⟩
    rw [← eh1] at f1 n1
    refine hd_aload pkX0_prepare rfl rfl (Int.natCast_nonneg _) ?_
    refine hd_callV pkX0_prepare rfl (q := (KX0_gatherForces, yX0_gatherForces, 0, 0, 0)) rfl rfl rfl (As := []) (rest := []) (c := 161) rfl rfl (Nat.le_of_ble_eq_true rfl) (st_cell ghh3 (k := 16) (n := 0) (by decide +kernel)).1 (st_cell ghh3 (k := 16) (n := 0) (by decide +kernel)).2.1 (h_X0_gatherForces sz1 ghh3) (hd_bV (fun hc4 pG => ?_))
    have ghc4 : StrZ zT hc4 := pG.1
    have o2 : Only pCs h hc4 := o1.trans (pG.2.1.mono gCs_p)
    have f2 : ∀ j : Int, 0 ≤ j → j ≠ 14 → ga hc4 161 j = ga h1 161 j := fun j a c => (pG.2.2.1 j a c).trans (by rw [eh1])
    have d2 : ED hc4 := d1.ol pG.2.1 (fun c hc => by have := mem_gCs.mp hc; omega)
    have m2 : ∀ j : Int, 0 ≤ j → j < 8 → 0 ≤ ga hc4 181 j ∧ ga hc4 181 j ≤ 7 := fun j a b => by rw [pG.2.1.ga (by decide), u1.ga (by decide)]; exact mv j a b
    have F2 := pG.2.2.2
    obtain ⟨hG, ehG⟩ : ∃ x : MH, x = hc4 := ⟨_, rfl⟩
    refine hd_aload pkX0_prepare rfl rfl (Int.natCast_nonneg _) ?_
    refine hd_ipush (z := 0) pkX0_prepare rfl ?_
    refine hd_putI pkX0_prepare rfl (st_cell ghc4 (k := 16) (n := 0) (by decide +kernel)).1 (st_cell ghc4 (k := 16) (n := 0) (by decide +kernel)).2.1 (fun hh5 ehh5 => ?_)
    replace ehh5 : hh5 = sa hc4 161 12 0 := ehh5
    have ghh5 : StrZ zT hh5 := by rw [ehh5]; exact st_fld ghc4 (by decide +kernel)
    have u3 : Only [161] hG hh5 := by rw [ehh5, ehG]; exact (Only.refl _ _).set List.mem_cons_self
    have o3 : Only pCs h hh5 := o2.trans (by rw [← ehG]; exact u3.mono (fun c hc => mem_pCs.mpr (Or.inl (List.mem_singleton.mp hc))))
    have f3 : PF h1 hh5 := fun j a c d e => by rw [ehh5, ga_sa _ _ _ (by decide) a, if_neg d]; exact f2 j a e
    have d3 : ED hh5 := (show ED hG by rw [ehG]; exact d2).ol u3 (by decide)
    have m3 : ∀ j : Int, 0 ≤ j → j < 8 → 0 ≤ ga hh5 181 j ∧ ga hh5 181 j ≤ 7 := fun j a b => by rw [u3.ga (by decide), ehG]; exact m2 j a b
    have F3 : ∀ x y : Int, 0 ≤ x → x < 8 → 0 ≤ y → y < 8 → -68719476736 ≤ ga hh5 (fR x) y ∧ ga hh5 (fR x) y ≤ 68719476736 := fun x y x0 x1 y0 y1 => by rw [u3.ga (fun w => by have := fR_b (r := x) ⟨x0, x1⟩; rw [List.mem_singleton] at w; omega), ehG]; exact F2 x y x0 x1 y0 y1
    have z3 : ga hh5 161 12 = 0 := by rw [ehh5, ga_sa _ _ _ (by decide) (by decide), if_pos rfl]
    refine hd_ipush (z := 0) pkX0_prepare rfl ?_
    refine hd_istore pkX0_prepare rfl rfl ?_
    change MW _ _ _ _ _ [(1, (0, 0)), (0, (2, ((161 : Nat) : Int)))] _ _
    have lp14 : ∀ (N14 : Nat) (k : Int) (hN : MH), StrZ zT hN → (Only pCs h hN) → (PF h1 hN) → (ED hN) → (∀ j : Int, 0 ≤ j → j < 8 → 0 ≤ ga hN 181 j ∧ ga hN 181 j ≤ 7) → (∀ x y : Int, 0 ≤ x → x < 8 → 0 ≤ y → y < 8 → -68719476736 ≤ ga hN (fR x) y ∧ ga hN (fR x) y ≤ 68719476736) → (0 ≤ k ∧ k ≤ 2 * (n0 + 1)) → (0 ≤ ga hN 161 12 ∧ ga hN 161 12 ≤ k) → 2 * (n0 + 1) - k < (N14 : Int) → MW KX0_prepare Q 0 0 (pcA pgX0_prepare 14) [(0, (2, ((161 : Nat) : Int))), (1, (0, k))] [] hN := by
      intro N14
      induction N14 with
      | zero => intro k hN g14 oN fN dN mN FN kb nN hm14; exfalso; omega
      | succ N14 ih14 =>
        intro k hN g14 oN fN dN mN FN kb nN hm14
        refine hd_iload pkX0_prepare rfl rfl ?_
        refine hd_ipush (z := 2) pkX0_prepare rfl ?_
        refine hd_aload pkX0_prepare rfl rfl (Int.natCast_nonneg _) ?_
        refine hd_getI pkX0_prepare rfl (st_cell g14 (k := 16) (n := 0) (by decide +kernel)).1 (st_cell g14 (k := 16) (n := 0) (by decide +kernel)).2.1 (fun v6 ev6 rv6 => ?_)
        replace ev6 : v6 = ga hN 161 0 := ev6
        have qv6 : n0 = v6 := by rw [ev6, fN 0 (by decide) (by decide) (by decide) (by decide), f1 0 (by decide) (by decide)]; exact en.symm
        subst qv6
        refine hd_ipush (z := 1) pkX0_prepare rfl ?_
        refine hd_iadd pkX0_prepare rfl (by omega) ?_
        refine hd_imul pkX0_prepare rfl (by omega) ?_
        refine hd_ic_ge pkX0_prepare rfl (fun c7 => ?_) (fun c7 => ?_)
        · skip
          obtain ⟨n, enn⟩ : ∃ x : Int, ga hN 161 12 = x := ⟨_, rfl⟩
          rw [enn] at nN
          have n8 : 0 ≤ n ∧ n ≤ 8 := by omega
          refine hd_ipush (z := 0) pkX0_prepare rfl ?_
          refine hd_istore pkX0_prepare rfl rfl ?_
          change MW _ _ _ _ _ [(1, (0, 0)), (0, (2, ((161 : Nat) : Int)))] _ _
          have lp58 : ∀ (N58 : Nat) (r : Int) (hX : MH), StrZ zT hX → (Only eCs hN hX) → (0 ≤ r ∧ r ≤ n) → (ED hX) → (∀ x y : Int, 0 ≤ x → x < r → 0 ≤ y → y < 2 * n → BV1 hX (eC x y) 12 (B9 hN n x y)) → n - r < (N58 : Int) → MW KX0_prepare Q 0 0 (pcA pgX0_prepare 58) [(0, (2, ((161 : Nat) : Int))), (1, (0, r))] [] hX := by
            intro N58
            induction N58 with
            | zero => intro r hX g58 uX rb dX pX hm58; exfalso; omega
            | succ N58 ih58 =>
              intro r hX g58 uX rb dX pX hm58
              refine hd_iload pkX0_prepare rfl rfl ?_
              refine hd_aload pkX0_prepare rfl rfl (Int.natCast_nonneg _) ?_
              refine hd_getI pkX0_prepare rfl (st_cell g58 (k := 16) (n := 0) (by decide +kernel)).1 (st_cell g58 (k := 16) (n := 0) (by decide +kernel)).2.1 (fun v8 ev8 rv8 => ?_)
              replace ev8 : v8 = ga hX 161 12 := ev8
              have qv8 : n = v8 := by rw [ev8, uX.ga (fun w => by have := mem_eCs.mp w; omega)]; exact enn.symm
              subst qv8
              refine hd_ic_ge pkX0_prepare rfl (fun c9 => ?_) (fun c9 => ?_)
              · skip
                have er9 : r = n := by omega
                have nX : ga hX 161 12 = n := (uX.ga (fun w => by have := mem_eCs.mp w; omega) 12).trans enn
                have mX : ∀ j : Int, 0 ≤ j → j < 8 → 0 ≤ ga hX 181 j ∧ ga hX 181 j ≤ 7 := fun j a b => by rw [uX.ga (fun w => by have := mem_eCs.mp w; omega)]; exact mN j a b
                have isX := IS.mk g58 (ES.mk g58 nX dX) (fun j a b => mX j a (by omega))
                have evX : EV n (fun x c => (fun a b : Nat => B9 hN n (a : Int) (b : Int)) x.toNat c.toNat) hX := fun x y x0 x1 y0 y1 => by
                  show BV1 _ _ _ (B9 hN n ((x.toNat : Nat) : Int) ((y.toNat : Nat) : Int))
                  rw [Int.toNat_of_nonneg x0, Int.toNat_of_nonneg y0]
                  exact pX x y x0 (by omega) y0 y1
                have bB : ∀ r c : Nat, r < n.toNat → c < (2 * n).toNat → -68719476736 ≤ B9 hN n (r : Int) (c : Int) ∧ B9 hN n (r : Int) (c : Int) ≤ 68719476736 := fun x y hx hy => by
                  unfold B9
                  split
                  · have a := mN (x : Int) (by omega) (by omega)
                    have b := mN (y : Int) (by omega) (by omega)
                    exact FN _ _ a.1 (by omega) b.1 (by omega)
                  · split <;> decide
                refine hd_aload pkX0_prepare rfl rfl (Int.natCast_nonneg _) ?_
                refine hd_callV pkX0_prepare rfl (q := (KX0_invert, yX0_invert, 0, 0, 0)) rfl rfl rfl (As := []) (rest := []) (c := 161) rfl rfl (Nat.le_of_ble_eq_true rfl) (st_cell g58 (k := 16) (n := 0) (by decide +kernel)).1 (st_cell g58 (k := 16) (n := 0) (by decide +kernel)).2.1 (h_X0_invert (B := fun a b : Nat => B9 hN n (a : Int) (b : Int)) n8 bB evX isX) (hd_bV (fun hc10 pI => ?_))
                have ghc10 : StrZ zT hc10 := st_inv g58 pI.1 pI.2.1 pI.2.2
                have oZ : Only pCs h hc10 := oN.trans ((uX.mono eCs_p).trans (pI.1.mono iCs_p))
                have fZ : PF h1 hc10 := fun j a c d e => (pI.2.2 j a c).trans ((uX.ga (fun w => by have := mem_eCs.mp w; omega) j).trans (fN j a c d e))
                have nZ : 0 ≤ ga hc10 161 12 ∧ ga hc10 161 12 ≤ 8 := by rw [pI.2.1.1.1.1.2.2.2.2]; exact n8
                have mZ : ∀ j : Int, 0 ≤ j → j < 8 → 0 ≤ ga hc10 181 j ∧ ga hc10 181 j ≤ 7 := fun j a b => by rw [pI.1.ga (fun w => by have := mem_iCs.mp w; omega)]; exact mX j a b
                have dZ := pI.2.1.1.2
                refine hd_vret pkX0_prepare rfl ?_
                subst eQ
                exact ⟨rfl, ghc10, oZ, fun j a b c d e => (fZ j a c d e).trans (f1 j a b), Or.inr ⟨ev0, (fZ 9 (by decide) (by decide) (by decide) (by decide)).trans n1⟩, dZ, nZ, mZ⟩
              · skip
                refine hd_ipush (z := 0) pkX0_prepare rfl ?_
                refine hd_istore pkX0_prepare rfl rfl ?_
                change MW _ _ _ _ _ [(2, (0, 0)), (0, (2, ((161 : Nat) : Int))), (1, (0, r))] _ _
                have lp64 : ∀ (N64 : Nat) (c : Int) (hY : MH), StrZ zT hY → (Only eCs hN hY) → (0 ≤ c ∧ c ≤ n) → (ED hY) → (∀ x y : Int, 0 ≤ x → x < r → 0 ≤ y → y < 2 * n → BV1 hY (eC x y) 12 (B9 hN n x y)) → (∀ y : Int, 0 ≤ y → y < c → BV1 hY (eC r y) 12 (B9 hN n r y) ∧ BV1 hY (eC r (n + y)) 12 (B9 hN n r (n + y))) → n - c < (N64 : Int) → MW KX0_prepare Q 0 0 (pcA pgX0_prepare 64) [(0, (2, ((161 : Nat) : Int))), (1, (0, r)), (2, (0, c))] [] hY := by
                  intro N64
                  induction N64 with
                  | zero => intro c hY g64 uY cb dY pY qY hm64; exfalso; omega
                  | succ N64 ih64 =>
                    intro c hY g64 uY cb dY pY qY hm64
                    have nY : ga hY 161 12 = n := (uY.ga (fun w => by have := mem_eCs.mp w; omega) 12).trans enn
                    have esY := ES.mk g64 nY dY
                    refine hd_iload pkX0_prepare rfl rfl ?_
                    refine hd_aload pkX0_prepare rfl rfl (Int.natCast_nonneg _) ?_
                    refine hd_getI pkX0_prepare rfl (st_cell g64 (k := 16) (n := 0) (by decide +kernel)).1 (st_cell g64 (k := 16) (n := 0) (by decide +kernel)).2.1 (fun v11 ev11 rv11 => ?_)
                    replace ev11 : v11 = ga hY 161 12 := ev11
                    have qv11 : n = v11 := by rw [ev11, uY.ga (fun w => by have := mem_eCs.mp w; omega)]; exact enn.symm
                    subst qv11
                    refine hd_ic_ge pkX0_prepare rfl (fun c12 => ?_) (fun c12 => ?_)
                    · skip
                      refine hd_iinc (z := 1) pkX0_prepare rfl rfl (by omega) rfl ?_
                      change MW _ _ _ _ _ [(1, (0, (r + 1))), (0, (2, ((161 : Nat) : Int))), (2, (0, c))] _ _
                      refine hd_goto pkX0_prepare rfl ?_
                      refine m_sub [(0, (2, ((161 : Nat) : Int))), (1, (0, (r + 1)))] (List.forall_mem_cons.mpr ⟨rfl, List.forall_mem_cons.mpr ⟨rfl, fun _ h => absurd h List.not_mem_nil⟩⟩) ?_
                      refine ih58  ((r + 1)) hY g64 ?_ ?_ ?_ ?_ ?_
                      · exact uY
                      · omega
                      · exact dY
                      · intro x y x0 x1 y0 y1
                        by_cases q : x = r
                        · rw [q]
                          by_cases w : y < n
                          · exact (qY y y0 (by omega)).1
                          · have z := (qY (y - n) (by omega) (by omega)).2
                            rw [show n + (y - n) = y by omega] at z
                            exact z
                        · exact pY x y x0 (by omega) y0 y1
                      · omega
                    · skip
                      refine hd_aload pkX0_prepare rfl rfl (Int.natCast_nonneg _) ?_
                      refine hd_iload pkX0_prepare rfl rfl ?_
                      refine hd_iload pkX0_prepare rfl rfl ?_
                      refine hd_callV pkX0_prepare rfl (q := (KX0_cell, yX0_cell, 0, 2, 0)) rfl rfl rfl (As := [(0, r), (0, c)]) (rest := []) (c := 161) rfl rfl (Nat.le_of_ble_eq_true rfl) (st_cell g64 (k := 16) (n := 0) (by decide +kernel)).1 (st_cell g64 (k := 16) (n := 0) (by decide +kernel)).2.1 (h_X0_cell ⟨by omega, by omega⟩ ⟨by omega, by omega⟩ esY.1) (hd_bR (fun v13 hc15 p14 => ?_))
                      obtain ⟨p14, ehc15⟩ := p14
                      replace ehc15 := ehc15.symm
                      subst ehc15
                      subst p14
                      refine hd_aload pkX0_prepare rfl rfl (Int.natCast_nonneg _) ?_
                      refine hd_getR (n := 182) pkX0_prepare rfl (st_cell g64 (k := 16) (n := 0) (by decide +kernel)).1 (st_cell g64 (k := 16) (n := 0) (by decide +kernel)).2.1 (st_ref g64 (by decide +kernel)) ?_
                      refine hd_aload pkX0_prepare rfl rfl (Int.natCast_nonneg _) ?_
                      refine hd_getR (n := 181) pkX0_prepare rfl (st_cell g64 (k := 16) (n := 0) (by decide +kernel)).1 (st_cell g64 (k := 16) (n := 0) (by decide +kernel)).2.1 (st_ref g64 (by decide +kernel)) ?_
                      refine hd_iload pkX0_prepare rfl rfl ?_
                      refine hd_iald (n := 8) pkX0_prepare rfl (st_cell g64 (c := 181) (k := 0) (n := 8) (by decide +kernel)) (by omega) (by omega) (fun v16 ev16 rv16 => ?_)
                      have mr : 0 ≤ v16 ∧ v16 ≤ 7 := by rw [ev16, uY.ga (fun w => by have := mem_eCs.mp w; omega)]; exact mN r (by omega) (by omega)
                      have er : v16 = ga hN 181 r := by rw [ev16]; exact uY.ga (fun w => by have := mem_eCs.mp w; omega) r
                      refine hd_aldR (n := 8) pkX0_prepare rfl (st_cell g64 (c := 182) (k := 7) (n := 8) (by decide +kernel)) (Or.inr (Or.inl rfl)) (by omega) (by omega) (fun v17 ev17 => ?_)
                      rw [st_force g64 ⟨by omega, by omega⟩] at ev17
                      subst v17
                      refine hd_aload pkX0_prepare rfl rfl (Int.natCast_nonneg _) ?_
                      refine hd_getR (n := 181) pkX0_prepare rfl (st_cell g64 (k := 16) (n := 0) (by decide +kernel)).1 (st_cell g64 (k := 16) (n := 0) (by decide +kernel)).2.1 (st_ref g64 (by decide +kernel)) ?_
                      refine hd_iload pkX0_prepare rfl rfl ?_
                      refine hd_iald (n := 8) pkX0_prepare rfl (st_cell g64 (c := 181) (k := 0) (n := 8) (by decide +kernel)) (by omega) (by omega) (fun v18 ev18 rv18 => ?_)
                      have mc : 0 ≤ v18 ∧ v18 ≤ 7 := by rw [ev18, uY.ga (fun w => by have := mem_eCs.mp w; omega)]; exact mN c (by omega) (by omega)
                      have ec : v18 = ga hN 181 c := by rw [ev18]; exact uY.ga (fun w => by have := mem_eCs.mp w; omega) c
                      refine hd_lald (n := 8) pkX0_prepare rfl (fR_cell g64 ⟨by omega, by omega⟩) (by omega) (by omega) (fun v19 ev19 rv19 => ?_)
                      have v83 : v19 = B9 hN n r c := by
                        rw [ev19, er, ec, uY.ga (fun w => by have := mem_eCs.mp w; have := fR_b (r := ga hN 181 r) ⟨by omega, by omega⟩; omega)]
                        unfold B9
                        rw [if_pos (by omega)]
                      refine hd_callV pkX0_prepare rfl (q := (KX1_set, yX1_set, 1, 1, 0)) rfl rfl rfl (As := [(1, v19)]) (rest := []) (c := eC r c) rfl rfl (Nat.le_of_ble_eq_true rfl) (esY.ob (W := 12) (eC_E ⟨by omega, by omega⟩ ⟨by omega, by omega⟩)).1.1 (esY.ob (W := 12) (eC_E ⟨by omega, by omega⟩ ⟨by omega, by omega⟩)).1.2.1 (e_set (v := v19) esY (eC_E ⟨by omega, by omega⟩ ⟨by omega, by omega⟩)) (hd_bV (fun hc20 p21 => ?_))
                      have ghc20 : StrZ zT hc20 := st_num g64 (eC_E ⟨by omega, by omega⟩ ⟨by omega, by omega⟩) p21.1 (p21.2.1.ob (eC_E ⟨by omega, by omega⟩ ⟨by omega, by omega⟩))
                      have u7 : Only eCs hN hc20 := uY.trans (only_e2 (eC_E ⟨by omega, by omega⟩ ⟨by omega, by omega⟩) p21.1)
                      have b7 : BV1 hc20 (eC r c) 12 (B9 hN n r c) := by rw [← v83]; exact p21.2.2
                      have p7 : ∀ x y : Int, 0 ≤ x → x < r → 0 ≤ y → y < 2 * n → BV1 hc20 (eC x y) 12 (B9 hN n x y) := fun x y x0 x1 y0 y1 => (pY x y x0 x1 y0 y1).o2 p21.1 (by have := eC_ne (r := x) (c := y) (r' := r) (c' := c) ⟨by omega, by omega⟩ ⟨by omega, by omega⟩ ⟨by omega, by omega⟩ ⟨by omega, by omega⟩ (by omega); omega)
                      have q7 : ∀ y : Int, 0 ≤ y → y < c → BV1 hc20 (eC r y) 12 (B9 hN n r y) ∧ BV1 hc20 (eC r (n + y)) 12 (B9 hN n r (n + y)) := fun y y0 y1 => ⟨(qY y y0 y1).1.o2 p21.1 (by have := eC_ne (r := r) (c := y) (r' := r) (c' := c) ⟨by omega, by omega⟩ ⟨by omega, by omega⟩ ⟨by omega, by omega⟩ ⟨by omega, by omega⟩ (by omega); omega), (qY y y0 y1).2.o2 p21.1 (by have := eC_ne (r := r) (c := n + y) (r' := r) (c' := c) ⟨by omega, by omega⟩ ⟨by omega, by omega⟩ ⟨by omega, by omega⟩ ⟨by omega, by omega⟩ (by omega); omega)⟩
                      refine hd_aload pkX0_prepare rfl rfl (Int.natCast_nonneg _) ?_
                      refine hd_iload pkX0_prepare rfl rfl ?_
                      refine hd_aload pkX0_prepare rfl rfl (Int.natCast_nonneg _) ?_
                      refine hd_getI pkX0_prepare rfl (st_cell ghc20 (k := 16) (n := 0) (by decide +kernel)).1 (st_cell ghc20 (k := 16) (n := 0) (by decide +kernel)).2.1 (fun v22 ev22 rv22 => ?_)
                      replace ev22 : v22 = ga hc20 161 12 := ev22
                      have qv22 : n = v22 := by rw [ev22, u7.ga (fun w => by have := mem_eCs.mp w; omega)]; exact enn.symm
                      subst qv22
                      refine hd_iload pkX0_prepare rfl rfl ?_
                      refine hd_iadd pkX0_prepare rfl (by omega) ?_
                      refine hd_callV pkX0_prepare rfl (q := (KX0_cell, yX0_cell, 0, 2, 0)) rfl rfl rfl (As := [(0, r), (0, (n + c))]) (rest := []) (c := 161) rfl rfl (Nat.le_of_ble_eq_true rfl) (st_cell ghc20 (k := 16) (n := 0) (by decide +kernel)).1 (st_cell ghc20 (k := 16) (n := 0) (by decide +kernel)).2.1 (h_X0_cell ⟨by omega, by omega⟩ ⟨by omega, by omega⟩ p21.2.1.1) (hd_bR (fun v23 hc25 p24 => ?_))
                      obtain ⟨p24, ehc25⟩ := p24
                      replace ehc25 := ehc25.symm
                      subst ehc25
                      subst p24
                      refine hd_iload pkX0_prepare rfl rfl ?_
                      refine hd_iload pkX0_prepare rfl rfl ?_
                      have cut98 : ∀ (iv : Int), (iv = if r = c then 1 else 0) → MW KX0_prepare Q 0 0 (pcA pgX0_prepare 98) [(0, (2, ((161 : Nat) : Int))), (1, (0, r)), (2, (0, c))] [(1, iv), (2, ((eC r (n + c) : Nat) : Int))] hc20 := by
                        intro iv ivv
                        refine hd_callV pkX0_prepare rfl (q := (KX1_set, yX1_set, 1, 1, 0)) rfl rfl rfl (As := [(1, iv)]) (rest := []) (c := eC r (n + c)) rfl rfl (Nat.le_of_ble_eq_true rfl) (p21.2.1.ob (W := 12) (eC_E ⟨by omega, by omega⟩ ⟨by omega, by omega⟩)).1.1 (p21.2.1.ob (W := 12) (eC_E ⟨by omega, by omega⟩ ⟨by omega, by omega⟩)).1.2.1 (e_set (v := iv) p21.2.1 (eC_E ⟨by omega, by omega⟩ ⟨by omega, by omega⟩)) (hd_bV (fun hc26 p27 => ?_))
                        have ghc26 : StrZ zT hc26 := st_num ghc20 (eC_E ⟨by omega, by omega⟩ ⟨by omega, by omega⟩) p27.1 (p27.2.1.ob (eC_E ⟨by omega, by omega⟩ ⟨by omega, by omega⟩))
                        have u8 : Only eCs hN hc26 := u7.trans (only_e2 (eC_E ⟨by omega, by omega⟩ ⟨by omega, by omega⟩) p27.1)
                        have d8 : ED hc26 := p27.2.1.2
                        have b8 : BV1 hc26 (eC r (n + c)) 12 (B9 hN n r (n + c)) := by
                          have e : iv = B9 hN n r (n + c) := by
                            rw [ivv]
                            unfold B9
                            rw [if_neg (show ¬ n + c < n by omega)]
                            exact if_cg (by omega)
                          rw [← e]
                          exact p27.2.2
                        have p8 : ∀ x y : Int, 0 ≤ x → x < r → 0 ≤ y → y < 2 * n → BV1 hc26 (eC x y) 12 (B9 hN n x y) := fun x y x0 x1 y0 y1 => (p7 x y x0 x1 y0 y1).o2 p27.1 (by have := eC_ne (r := x) (c := y) (r' := r) (c' := n + c) ⟨by omega, by omega⟩ ⟨by omega, by omega⟩ ⟨by omega, by omega⟩ ⟨by omega, by omega⟩ (by omega); omega)
                        have q8 : ∀ y : Int, 0 ≤ y → y < c + 1 → BV1 hc26 (eC r y) 12 (B9 hN n r y) ∧ BV1 hc26 (eC r (n + y)) 12 (B9 hN n r (n + y)) := fun y y0 y1 => by
                          by_cases q : y = c
                          · rw [q]
                            exact ⟨b7.o2 p27.1 (by have := eC_ne (r := r) (c := c) (r' := r) (c' := n + c) ⟨by omega, by omega⟩ ⟨by omega, by omega⟩ ⟨by omega, by omega⟩ ⟨by omega, by omega⟩ (by omega); omega), b8⟩
                          · exact ⟨(q7 y y0 (by omega)).1.o2 p27.1 (by have := eC_ne (r := r) (c := y) (r' := r) (c' := n + c) ⟨by omega, by omega⟩ ⟨by omega, by omega⟩ ⟨by omega, by omega⟩ ⟨by omega, by omega⟩ (by omega); omega), (q7 y y0 (by omega)).2.o2 p27.1 (by have := eC_ne (r := r) (c := n + y) (r' := r) (c' := n + c) ⟨by omega, by omega⟩ ⟨by omega, by omega⟩ ⟨by omega, by omega⟩ ⟨by omega, by omega⟩ (by omega); omega)⟩
                        refine hd_iinc (z := 1) pkX0_prepare rfl rfl (by omega) rfl ?_
                        change MW _ _ _ _ _ [(2, (0, (c + 1))), (0, (2, ((161 : Nat) : Int))), (1, (0, r))] _ _
                        refine hd_goto pkX0_prepare rfl ?_
                        refine m_sub [(0, (2, ((161 : Nat) : Int))), (1, (0, r)), (2, (0, (c + 1)))] (List.forall_mem_cons.mpr ⟨rfl, List.forall_mem_cons.mpr ⟨rfl, List.forall_mem_cons.mpr ⟨rfl, fun _ h => absurd h List.not_mem_nil⟩⟩⟩) ?_
                        refine ih64  ((c + 1)) hc26 ghc26 ?_ ?_ ?_ ?_ ?_ ?_
                        · exact u8
                        · omega
                        · exact d8
                        · exact p8
                        · exact q8
                        · omega
                      refine hd_ic_ne pkX0_prepare rfl (fun c28 => ?_) (fun c28 => ?_)
                      · skip
                        refine hd_lpush (z := 0) pkX0_prepare rfl ?_
                        refine cut98 (0) ?_
                        · first
                            | rw [if_pos (by omega)]
                            | rw [if_neg (by omega)]
                      · skip
                        refine hd_lpush (z := 1) pkX0_prepare rfl ?_
                        refine hd_goto pkX0_prepare rfl ?_
                        refine cut98 (1) ?_
                        · first
                            | rw [if_pos (by omega)]
                            | rw [if_neg (by omega)]
                refine m_sub [(0, (2, ((161 : Nat) : Int))), (1, (0, r)), (2, (0, 0))] (List.forall_mem_cons.mpr ⟨rfl, List.forall_mem_cons.mpr ⟨rfl, List.forall_mem_cons.mpr ⟨rfl, fun _ h => absurd h List.not_mem_nil⟩⟩⟩) ?_
                refine lp64 ((n - (0)) + 1).toNat (0) hX g58 ?_ ?_ ?_ ?_ ?_ ?_
                · exact uX
                · omega
                · exact dX
                · exact pX
                · intro y y0 y1
                  omega
                · omega
          refine m_sub [(0, (2, ((161 : Nat) : Int))), (1, (0, 0))] (List.forall_mem_cons.mpr ⟨rfl, List.forall_mem_cons.mpr ⟨rfl, fun _ h => absurd h List.not_mem_nil⟩⟩) ?_
          refine lp58 ((n - (0)) + 1).toNat (0) hN g14 ?_ ?_ ?_ ?_ ?_
          · exact Only.refl _ _
          · omega
          · exact dN
          · intro x y x0 x1
            omega
          · omega
        · skip
          refine hd_aload pkX0_prepare rfl rfl (Int.natCast_nonneg _) ?_
          refine hd_getR (n := 180) pkX0_prepare rfl (st_cell g14 (k := 16) (n := 0) (by decide +kernel)).1 (st_cell g14 (k := 16) (n := 0) (by decide +kernel)).2.1 (st_ref g14 (by decide +kernel)) ?_
          refine hd_iload pkX0_prepare rfl rfl ?_
          refine hd_ipush (z := 0) pkX0_prepare rfl ?_
          refine hd_zast (n := 8) pkX0_prepare rfl (st_cell g14 (c := 180) (k := 2) (n := 8) (by decide +kernel)) (by first | decide | (unfold fR; omega)) (by omega) (by omega) (by omega) (fun hh29 ehh29 => ?_)
          have ghh29 : StrZ zT hh29 := by rw [ehh29]; exact st_arr g14 (by decide +kernel)
          have u4 : Only [180] hN hh29 := by rw [ehh29]; exact (Only.refl _ _).set List.mem_cons_self
          have o4 : Only pCs h hh29 := oN.trans (u4.mono (fun c hc => mem_pCs.mpr (by rw [List.mem_singleton] at hc; omega)))
          have f4 : PF h1 hh29 := fun j a c d e => (u4.ga (by decide) j).trans (fN j a c d e)
          have d4 : ED hh29 := dN.ol u4 (by decide)
          have m4 : ∀ j : Int, 0 ≤ j → j < 8 → 0 ≤ ga hh29 181 j ∧ ga hh29 181 j ≤ 7 := fun j a b => by rw [u4.ga (by decide)]; exact mN j a b
          have n4 : ga hh29 161 12 = ga hN 161 12 := u4.ga (by decide) 12
          have F4 : ∀ x y : Int, 0 ≤ x → x < 8 → 0 ≤ y → y < 8 → -68719476736 ≤ ga hh29 (fR x) y ∧ ga hh29 (fR x) y ≤ 68719476736 := fun x y x0 x1 y0 y1 => by rw [u4.ga (fun w => by have := fR_b (r := x) ⟨x0, x1⟩; rw [List.mem_singleton] at w; omega)]; exact FN x y x0 x1 y0 y1
          refine hd_aload pkX0_prepare rfl rfl (Int.natCast_nonneg _) ?_
          refine hd_getR (n := 167) pkX0_prepare rfl (st_cell ghh29 (k := 16) (n := 0) (by decide +kernel)).1 (st_cell ghh29 (k := 16) (n := 0) (by decide +kernel)).2.1 (st_ref ghh29 (by decide +kernel)) ?_
          refine hd_iload pkX0_prepare rfl rfl ?_
          refine hd_zald (n := 8) pkX0_prepare rfl (st_cell ghh29 (c := 167) (k := 2) (n := 8) (by decide +kernel)) (by omega) (by omega) (fun v30 ev30 rv30 => ?_)
          refine hd_if_ne pkX0_prepare rfl (fun c31 => ?_) (fun c31 => ?_)
          · skip
            refine hd_iinc (z := 1) pkX0_prepare rfl rfl (by omega) rfl ?_
            change MW _ _ _ _ _ [(1, (0, (k + 1))), (0, (2, ((161 : Nat) : Int)))] _ _
            refine hd_goto pkX0_prepare rfl ?_
            refine m_sub [(0, (2, ((161 : Nat) : Int))), (1, (0, (k + 1)))] (List.forall_mem_cons.mpr ⟨rfl, List.forall_mem_cons.mpr ⟨rfl, fun _ h => absurd h List.not_mem_nil⟩⟩) ?_
            refine ih14  ((k + 1)) hh29 ghh29 ?_ ?_ ?_ ?_ ?_ ?_ ?_ ?_
            · first | exact o6 | exact o4
            · first | exact f6 | exact f4
            · first | exact d6 | exact d4
            · first | exact m6 | exact m4
            · first | exact F6 | exact F4
            · omega
            · first | (rw [n6]; omega) | (rw [n4]; omega)
            · omega
          · skip
            refine hd_iload pkX0_prepare rfl rfl ?_
            refine hd_ipush (z := 2) pkX0_prepare rfl ?_
            refine hd_irem pkX0_prepare rfl (by decide) (by have w := emod_of (x := k) (y := 2) (by omega) (by omega); omega) ?_
            refine hd_if_eq pkX0_prepare rfl (fun c32 => ?_) (fun c32 => ?_)
            · skip
              obtain ⟨hN5, ehN5⟩ : ∃ x : MH, x = hh29 := ⟨_, rfl⟩
              refine hd_aload pkX0_prepare rfl rfl (Int.natCast_nonneg _) ?_
              refine hd_getR (n := 181) pkX0_prepare rfl (st_cell ghh29 (k := 16) (n := 0) (by decide +kernel)).1 (st_cell ghh29 (k := 16) (n := 0) (by decide +kernel)).2.1 (st_ref ghh29 (by decide +kernel)) ?_
              refine hd_aload pkX0_prepare rfl rfl (Int.natCast_nonneg _) ?_
              refine hd_getI pkX0_prepare rfl (st_cell ghh29 (k := 16) (n := 0) (by decide +kernel)).1 (st_cell ghh29 (k := 16) (n := 0) (by decide +kernel)).2.1 (fun v33 ev33 rv33 => ?_)
              replace ev33 : v33 = ga hh29 161 12 := ev33
              rw [n4] at ev33
              refine hd_iload pkX0_prepare rfl rfl ?_
              refine hd_iast (n := 8) pkX0_prepare rfl (st_cell ghh29 (c := 181) (k := 0) (n := 8) (by decide +kernel)) (by first | decide | (unfold fR; omega)) (by omega) (by omega) (fun hh34 ehh34 => ?_)
              have ghh34 : StrZ zT hh34 := by rw [ehh34]; exact st_arr ghh29 (by decide +kernel)
              have u5 : Only [181] hN5 hh34 := by rw [ehh34, ehN5]; exact (Only.refl _ _).set List.mem_cons_self
              have w5 : ∀ j : Int, 0 ≤ j → ga hh34 181 j = if j = v33 then k else ga hN5 181 j := fun j a => by rw [ehh34, ehN5]; exact ga_sa _ _ _ (by omega) a
              have o5 : Only pCs h hh34 := (show Only pCs h hN5 by rw [ehN5]; exact o4).trans (u5.mono (fun c hc => mem_pCs.mpr (by rw [List.mem_singleton] at hc; omega)))
              have f5 : PF h1 hh34 := fun j a c d e => (u5.ga (by decide) j).trans (by rw [ehN5]; exact f4 j a c d e)
              have d5 : ED hh34 := (show ED hN5 by rw [ehN5]; exact d4).ol u5 (by decide)
              have m5 : ∀ j : Int, 0 ≤ j → j < 8 → 0 ≤ ga hh34 181 j ∧ ga hh34 181 j ≤ 7 := fun j a b => by
                rw [w5 j a]
                split
                · omega
                · rw [ehN5]
                  exact m4 j a b
              have n5 : ga hh34 161 12 = ga hN 161 12 := (u5.ga (by decide) 12).trans (by rw [ehN5]; exact n4)
              have F5 : ∀ x y : Int, 0 ≤ x → x < 8 → 0 ≤ y → y < 8 → -68719476736 ≤ ga hh34 (fR x) y ∧ ga hh34 (fR x) y ≤ 68719476736 := fun x y x0 x1 y0 y1 => by rw [u5.ga (fun w => by have := fR_b (r := x) ⟨x0, x1⟩; rw [List.mem_singleton] at w; omega), ehN5]; exact F4 x y x0 x1 y0 y1
              obtain ⟨hN6, ehN6⟩ : ∃ x : MH, x = hh34 := ⟨_, rfl⟩
              refine hd_aload pkX0_prepare rfl rfl (Int.natCast_nonneg _) ?_
              refine hd_dup pkX0_prepare rfl rfl ?_
              refine hd_getI pkX0_prepare rfl (st_cell ghh34 (k := 16) (n := 0) (by decide +kernel)).1 (st_cell ghh34 (k := 16) (n := 0) (by decide +kernel)).2.1 (fun v35 ev35 rv35 => ?_)
              replace ev35 : v35 = ga hh34 161 12 := ev35
              rw [n5] at ev35
              refine hd_ipush (z := 1) pkX0_prepare rfl ?_
              refine hd_iadd pkX0_prepare rfl (by omega) ?_
              refine hd_putI pkX0_prepare rfl (st_cell ghh34 (k := 16) (n := 0) (by decide +kernel)).1 (st_cell ghh34 (k := 16) (n := 0) (by decide +kernel)).2.1 (fun hh36 ehh36 => ?_)
              replace ehh36 : hh36 = sa hh34 161 12 (v35 + 1) := ehh36
              have ghh36 : StrZ zT hh36 := by rw [ehh36]; exact st_fld ghh34 (by decide +kernel)
              have u6 : Only [161] hN6 hh36 := by rw [ehh36, ehN6]; exact (Only.refl _ _).set List.mem_cons_self
              have w6 : ∀ j : Int, 0 ≤ j → ga hh36 161 j = if j = 12 then (v35 + 1) else ga hN6 161 j := fun j a => by rw [ehh36, ehN6]; exact ga_sa _ _ _ (by decide) a
              have o6 : Only pCs h hh36 := (show Only pCs h hN6 by rw [ehN6]; exact o5).trans (u6.mono (fun c hc => mem_pCs.mpr (by rw [List.mem_singleton] at hc; omega)))
              have f6 : PF h1 hh36 := fun j a c d e => by rw [w6 j a, if_neg d, ehN6]; exact f5 j a c d e
              have d6 : ED hh36 := (show ED hN6 by rw [ehN6]; exact d5).ol u6 (by decide)
              have m6 : ∀ j : Int, 0 ≤ j → j < 8 → 0 ≤ ga hh36 181 j ∧ ga hh36 181 j ≤ 7 := fun j a b => by rw [u6.ga (by decide), ehN6]; exact m5 j a b
              have n6 : ga hh36 161 12 = (v35 + 1) := by rw [w6 12 (by decide), if_pos rfl]
              have F6 : ∀ x y : Int, 0 ≤ x → x < 8 → 0 ≤ y → y < 8 → -68719476736 ≤ ga hh36 (fR x) y ∧ ga hh36 (fR x) y ≤ 68719476736 := fun x y x0 x1 y0 y1 => by rw [u6.ga (fun w => by have := fR_b (r := x) ⟨x0, x1⟩; rw [List.mem_singleton] at w; omega), ehN6]; exact F5 x y x0 x1 y0 y1
              refine hd_iinc (z := 1) pkX0_prepare rfl rfl (by omega) rfl ?_
              change MW _ _ _ _ _ [(1, (0, (k + 1))), (0, (2, ((161 : Nat) : Int)))] _ _
              refine hd_goto pkX0_prepare rfl ?_
              refine m_sub [(0, (2, ((161 : Nat) : Int))), (1, (0, (k + 1)))] (List.forall_mem_cons.mpr ⟨rfl, List.forall_mem_cons.mpr ⟨rfl, fun _ h => absurd h List.not_mem_nil⟩⟩) ?_
              refine ih14  ((k + 1)) hh36 ghh36 ?_ ?_ ?_ ?_ ?_ ?_ ?_ ?_
              · first | exact o6 | exact o4
              · first | exact f6 | exact f4
              · first | exact d6 | exact d4
              · first | exact m6 | exact m4
              · first | exact F6 | exact F4
              · omega
              · first | (rw [n6]; omega) | (rw [n4]; omega)
              · omega
            · skip
              refine hd_aload pkX0_prepare rfl rfl (Int.natCast_nonneg _) ?_
              refine hd_iload pkX0_prepare rfl rfl ?_
              refine hd_ipush (z := 2) pkX0_prepare rfl ?_
              refine hd_idiv pkX0_prepare rfl (by decide) (by have w := (tdiv12 (x := k) (y := 2) (by omega) (by omega)).1; omega) ?_
              generalize ekh : (Int.tdiv k 2) = kh
              rw [(tdiv12 (by omega) (by omega)).1] at ekh
              have sz4 : SZ0 hh29 := sz.onlyP o4 ((f4 0 (by decide) (by decide) (by decide) (by decide)).trans (f1 0 (by decide) (by decide)))
              refine hd_callV pkX0_prepare rfl (q := (KX0_hasStiffEnd, yX0_hasStiffEnd, 0, 1, 0)) rfl rfl rfl (As := [(0, kh)]) (rest := []) (c := 161) rfl rfl (Nat.le_of_ble_eq_true rfl) (st_cell ghh29 (k := 16) (n := 0) (by decide +kernel)).1 (st_cell ghh29 (k := 16) (n := 0) (by decide +kernel)).2.1 (h_X0_hasStiffEnd ⟨by omega, by omega⟩ sz4 ghh29) (hd_bI (fun se hc37 p38 => ?_))
              obtain ⟨p38, ehc37⟩ := p38
              replace ehc37 := ehc37.symm
              subst ehc37
              refine hd_if_eq pkX0_prepare rfl (fun c39 => ?_) (fun c39 => ?_)
              · skip
                refine hd_iinc (z := 1) pkX0_prepare rfl rfl (by omega) rfl ?_
                change MW _ _ _ _ _ [(1, (0, (k + 1))), (0, (2, ((161 : Nat) : Int)))] _ _
                refine hd_goto pkX0_prepare rfl ?_
                refine m_sub [(0, (2, ((161 : Nat) : Int))), (1, (0, (k + 1)))] (List.forall_mem_cons.mpr ⟨rfl, List.forall_mem_cons.mpr ⟨rfl, fun _ h => absurd h List.not_mem_nil⟩⟩) ?_
                refine ih14  ((k + 1)) hh29 ghh29 ?_ ?_ ?_ ?_ ?_ ?_ ?_ ?_
                · first | exact o6 | exact o4
                · first | exact f6 | exact f4
                · first | exact d6 | exact d4
                · first | exact m6 | exact m4
                · first | exact F6 | exact F4
                · omega
                · first | (rw [n6]; omega) | (rw [n4]; omega)
                · omega
              · skip
                obtain ⟨hN5, ehN5⟩ : ∃ x : MH, x = hh29 := ⟨_, rfl⟩
                refine hd_aload pkX0_prepare rfl rfl (Int.natCast_nonneg _) ?_
                refine hd_getR (n := 181) pkX0_prepare rfl (st_cell ghh29 (k := 16) (n := 0) (by decide +kernel)).1 (st_cell ghh29 (k := 16) (n := 0) (by decide +kernel)).2.1 (st_ref ghh29 (by decide +kernel)) ?_
                refine hd_aload pkX0_prepare rfl rfl (Int.natCast_nonneg _) ?_
                refine hd_getI pkX0_prepare rfl (st_cell ghh29 (k := 16) (n := 0) (by decide +kernel)).1 (st_cell ghh29 (k := 16) (n := 0) (by decide +kernel)).2.1 (fun v40 ev40 rv40 => ?_)
                replace ev40 : v40 = ga hh29 161 12 := ev40
                rw [n4] at ev40
                refine hd_iload pkX0_prepare rfl rfl ?_
                refine hd_iast (n := 8) pkX0_prepare rfl (st_cell ghh29 (c := 181) (k := 0) (n := 8) (by decide +kernel)) (by first | decide | (unfold fR; omega)) (by omega) (by omega) (fun hh41 ehh41 => ?_)
                have ghh41 : StrZ zT hh41 := by rw [ehh41]; exact st_arr ghh29 (by decide +kernel)
                have u5 : Only [181] hN5 hh41 := by rw [ehh41, ehN5]; exact (Only.refl _ _).set List.mem_cons_self
                have w5 : ∀ j : Int, 0 ≤ j → ga hh41 181 j = if j = v40 then k else ga hN5 181 j := fun j a => by rw [ehh41, ehN5]; exact ga_sa _ _ _ (by omega) a
                have o5 : Only pCs h hh41 := (show Only pCs h hN5 by rw [ehN5]; exact o4).trans (u5.mono (fun c hc => mem_pCs.mpr (by rw [List.mem_singleton] at hc; omega)))
                have f5 : PF h1 hh41 := fun j a c d e => (u5.ga (by decide) j).trans (by rw [ehN5]; exact f4 j a c d e)
                have d5 : ED hh41 := (show ED hN5 by rw [ehN5]; exact d4).ol u5 (by decide)
                have m5 : ∀ j : Int, 0 ≤ j → j < 8 → 0 ≤ ga hh41 181 j ∧ ga hh41 181 j ≤ 7 := fun j a b => by
                  rw [w5 j a]
                  split
                  · omega
                  · rw [ehN5]
                    exact m4 j a b
                have n5 : ga hh41 161 12 = ga hN 161 12 := (u5.ga (by decide) 12).trans (by rw [ehN5]; exact n4)
                have F5 : ∀ x y : Int, 0 ≤ x → x < 8 → 0 ≤ y → y < 8 → -68719476736 ≤ ga hh41 (fR x) y ∧ ga hh41 (fR x) y ≤ 68719476736 := fun x y x0 x1 y0 y1 => by rw [u5.ga (fun w => by have := fR_b (r := x) ⟨x0, x1⟩; rw [List.mem_singleton] at w; omega), ehN5]; exact F4 x y x0 x1 y0 y1
                obtain ⟨hN6, ehN6⟩ : ∃ x : MH, x = hh41 := ⟨_, rfl⟩
                refine hd_aload pkX0_prepare rfl rfl (Int.natCast_nonneg _) ?_
                refine hd_dup pkX0_prepare rfl rfl ?_
                refine hd_getI pkX0_prepare rfl (st_cell ghh41 (k := 16) (n := 0) (by decide +kernel)).1 (st_cell ghh41 (k := 16) (n := 0) (by decide +kernel)).2.1 (fun v42 ev42 rv42 => ?_)
                replace ev42 : v42 = ga hh41 161 12 := ev42
                rw [n5] at ev42
                refine hd_ipush (z := 1) pkX0_prepare rfl ?_
                refine hd_iadd pkX0_prepare rfl (by omega) ?_
                refine hd_putI pkX0_prepare rfl (st_cell ghh41 (k := 16) (n := 0) (by decide +kernel)).1 (st_cell ghh41 (k := 16) (n := 0) (by decide +kernel)).2.1 (fun hh43 ehh43 => ?_)
                replace ehh43 : hh43 = sa hh41 161 12 (v42 + 1) := ehh43
                have ghh43 : StrZ zT hh43 := by rw [ehh43]; exact st_fld ghh41 (by decide +kernel)
                have u6 : Only [161] hN6 hh43 := by rw [ehh43, ehN6]; exact (Only.refl _ _).set List.mem_cons_self
                have w6 : ∀ j : Int, 0 ≤ j → ga hh43 161 j = if j = 12 then (v42 + 1) else ga hN6 161 j := fun j a => by rw [ehh43, ehN6]; exact ga_sa _ _ _ (by decide) a
                have o6 : Only pCs h hh43 := (show Only pCs h hN6 by rw [ehN6]; exact o5).trans (u6.mono (fun c hc => mem_pCs.mpr (by rw [List.mem_singleton] at hc; omega)))
                have f6 : PF h1 hh43 := fun j a c d e => by rw [w6 j a, if_neg d, ehN6]; exact f5 j a c d e
                have d6 : ED hh43 := (show ED hN6 by rw [ehN6]; exact d5).ol u6 (by decide)
                have m6 : ∀ j : Int, 0 ≤ j → j < 8 → 0 ≤ ga hh43 181 j ∧ ga hh43 181 j ≤ 7 := fun j a b => by rw [u6.ga (by decide), ehN6]; exact m5 j a b
                have n6 : ga hh43 161 12 = (v42 + 1) := by rw [w6 12 (by decide), if_pos rfl]
                have F6 : ∀ x y : Int, 0 ≤ x → x < 8 → 0 ≤ y → y < 8 → -68719476736 ≤ ga hh43 (fR x) y ∧ ga hh43 (fR x) y ≤ 68719476736 := fun x y x0 x1 y0 y1 => by rw [u6.ga (fun w => by have := fR_b (r := x) ⟨x0, x1⟩; rw [List.mem_singleton] at w; omega), ehN6]; exact F5 x y x0 x1 y0 y1
                refine hd_iinc (z := 1) pkX0_prepare rfl rfl (by omega) rfl ?_
                change MW _ _ _ _ _ [(1, (0, (k + 1))), (0, (2, ((161 : Nat) : Int)))] _ _
                refine hd_goto pkX0_prepare rfl ?_
                refine m_sub [(0, (2, ((161 : Nat) : Int))), (1, (0, (k + 1)))] (List.forall_mem_cons.mpr ⟨rfl, List.forall_mem_cons.mpr ⟨rfl, fun _ h => absurd h List.not_mem_nil⟩⟩) ?_
                refine ih14  ((k + 1)) hh43 ghh43 ?_ ?_ ?_ ?_ ?_ ?_ ?_ ?_
                · first | exact o6 | exact o4
                · first | exact f6 | exact f4
                · first | exact d6 | exact d4
                · first | exact m6 | exact m4
                · first | exact F6 | exact F4
                · omega
                · first | (rw [n6]; omega) | (rw [n4]; omega)
                · omega
    refine m_sub [(0, (2, ((161 : Nat) : Int))), (1, (0, 0))] (List.forall_mem_cons.mpr ⟨rfl, List.forall_mem_cons.mpr ⟨rfl, fun _ h => absurd h List.not_mem_nil⟩⟩) ?_
    refine lp14 ((2 * (n0 + 1) - (0)) + 1).toNat (0) hh5 ghh5 ?_ ?_ ?_ ?_ ?_ ?_ ?_ ?_
    · exact o3
    · exact f3
    · exact d3
    · exact m3
    · exact F3
    · omega
    · rw [z3]
      decide
    · omega
  · skip
    refine hd_vret pkX0_prepare rfl ?_
    subst eQ
    exact ⟨rfl, g, Only.refl _ _, fun _ _ _ _ _ _ => rfl, Or.inl ⟨rfl, rfl⟩, ed, nf, mv⟩
