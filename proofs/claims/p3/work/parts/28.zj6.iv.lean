/-! X0 by hand: invert -/
set_option maxRecDepth 20000 in
set_option maxHeartbeats 8000000 in
theorem h_X0_invert {h : MH} {n : Int} {B : Nat → Nat → Int} (n8 : 0 ≤ n ∧ n ≤ 8) (bB : ∀ r c, r < n.toNat → c < (2 * n).toNat → -68719476736 ≤ B r c ∧ B r c ≤ 68719476736) (ev : EV n (fun x c => B x.toNat c.toNat) h) (g : IS n h) : MCal KX0_invert yX0_invert 0 0 [(2, ((161 : Nat) : Int))] h (mRV fun h' => Only iCs h h' ∧ IS n h' ∧ ∀ j : Int, 0 ≤ j → j ≠ 10 → ga h' 161 j = ga h 161 j) := by
  refine MCal.ofMW (Or.inl rfl) ⟨cp_X0, rfl⟩ (Nat.le_of_ble_eq_true rfl) ?_
  generalize eQ : (mRV fun h' => Only iCs h h' ∧ IS n h' ∧ ∀ j : Int, 0 ≤ j → j ≠ 10 → ga h' 161 j = ga h 161 j : MO → MH → Prop) = Q
  change MW KX0_invert Q 0 0 (pcA pgX0_invert 0) [(0, (2, ((161 : Nat) : Int)))] [] h
  refine hd_ipush (z := 0) pkX0_invert rfl ?_
  refine hd_istore pkX0_invert rfl rfl ?_
  change MW _ _ _ _ _ [(1, (0, 0)), (0, (2, ((161 : Nat) : Int)))] _ _
  refine hd_aload pkX0_invert rfl rfl (Int.natCast_nonneg _) ?_
  refine hd_ipush (z := 0) pkX0_invert rfl ?_
  refine hd_putZ pkX0_invert rfl (g.1.1.1.1) (g.1.1.1.2.1) (by omega) (fun hh1 ehh1 => ?_)
  replace ehh1 : hh1 = sa h 161 10 0 := ehh1
  have ghh1 : IS n hh1 := by rw [ehh1]; exact g.wr (by decide) (Or.inr ⟨rfl, rfl⟩)
  have u0 : Only [161] h hh1 := by rw [ehh1]; exact (Only.refl _ _).set List.mem_cons_self
  have o0 : Only iCs h hh1 := u0.mono (fun c hc => mem_iCs.mpr (Or.inl (List.mem_singleton.mp hc)))
  have f0 : ∀ j : Int, 0 ≤ j → j ≠ 10 → ga hh1 161 j = ga h 161 j := fun j a b => by rw [ehh1, ga_sa _ _ _ (by decide) a, if_neg b]
  refine hd_aload pkX0_invert rfl rfl (Int.natCast_nonneg _) ?_
  refine hd_getR (n := 193) pkX0_invert rfl (ghh1.1.1.1.1) (ghh1.1.1.1.2.1) (ghh1.1.1.1.2.2.2.1) ?_
  refine hd_ipush (z := 0) pkX0_invert rfl ?_
  refine hd_aid pkX0_invert rfl ghh1.1 0 491 (by decide) rfl ?_
  refine hd_lpush (z := 1) pkX0_invert rfl ?_
  refine hd_callV pkX0_invert rfl (q := (KX1_set, yX1_set, 1, 1, 0)) rfl rfl rfl (As := [(1, 1)]) (rest := []) (c := 491) rfl rfl (Nat.le_of_ble_eq_true rfl) ((ghh1.1.ob (W := 160) (aE 0 (by decide) rfl)).1.1) ((ghh1.1.ob (W := 160) (aE 0 (by decide) rfl)).1.2.1) (e_set (v := 1) ghh1.1 (aE 0 (by decide) rfl)) (hd_bV (fun hc2 p1 => ?_))
  have ghc2 : IS n hc2 := ghh1.call p1.1 p1.2.1 (fun c hc => by simp only [List.mem_cons, List.not_mem_nil, or_false] at hc; omega)
  have o1 : Only iCs h hc2 := (only_e2 (aE 0 (by decide) rfl) p1.1).mono eCs_i |> o0.trans
  have f1 : ∀ j : Int, 0 ≤ j → j ≠ 10 → ga hc2 161 j = ga h 161 j := fun j a b => (p1.1.ga (by decide) j).trans (f0 j a b)
  have iv1 : IV n B 0 hc2 := ⟨0, B, _, _, 1, Nat.zero_le _, GQ.ini, fun _ w => absurd w (by decide), (ev.ol n8.2 u0 (by decide)).ol n8.2 p1.1 (by decide), p1.2.2⟩
  refine hd_ipush (z := 0) pkX0_invert rfl ?_
  refine hd_istore pkX0_invert rfl rfl ?_
  change MW _ _ _ _ _ [(2, (0, 0)), (1, (0, 0)), (0, (2, ((161 : Nat) : Int)))] _ _
  have lp13 : ∀ (N13 : Nat) (ob p : Int) (hP : MH), IS n hP → (Only iCs h hP) → (∀ j : Int, 0 ≤ j → j ≠ 10 → ga hP 161 j = ga h 161 j) → (0 ≤ p ∧ p ≤ n) → (IV n B p hP) → n - p < (N13 : Int) → MW KX0_invert Q 0 0 (pcA pgX0_invert 13) [(0, (2, ((161 : Nat) : Int))), (1, (0, ob)), (2, (0, p))] [] hP := by
    intro N13
    induction N13 with
    | zero => intro ob p hP g13 oP fP pb iv hm13; exfalso; omega
    | succ N13 ih13 =>
      intro ob p hP g13 oP fP pb iv hm13
      obtain ⟨k, V, pf, qf, D, kp, gq, qp, ev9, b9⟩ := iv
      refine hd_iload pkX0_invert rfl rfl ?_
      refine hd_aload pkX0_invert rfl rfl (Int.natCast_nonneg _) ?_
      refine hd_getI pkX0_invert rfl (g13.1.1.1.1) (g13.1.1.1.2.1) (fun v3 ev3 rv3 => ?_)
      replace ev3 : v3 = ga hP (161) 12 := ev3
      have qv3 : v3 = n := ev3.trans g13.1.1.1.2.2.2.2
      subst v3
      refine hd_ic_ge pkX0_invert rfl (fun c4 => ?_) (fun c4 => ?_)
      · skip
        refine hd_ipush (z := 0) pkX0_invert rfl ?_
        refine hd_istore pkX0_invert rfl rfl ?_
        change MW _ _ _ _ _ [(2, (0, 0)), (0, (2, ((161 : Nat) : Int))), (1, (0, ob))] _ _
        have lp69 : ∀ (N69 : Nat) (r : Int) (hQ : MH), IS n hQ → (Only iCs h hQ) → (∀ j : Int, 0 ≤ j → j ≠ 10 → ga hQ 161 j = ga h 161 j) → (0 ≤ r ∧ r ≤ n) → n - r < (N69 : Int) → MW KX0_invert Q 0 0 (pcA pgX0_invert 69) [(0, (2, ((161 : Nat) : Int))), (1, (0, ob)), (2, (0, r))] [] hQ := by
          intro N69
          induction N69 with
          | zero => intro r hQ g69 oQ fQ rq hm69; exfalso; omega
          | succ N69 ih69 =>
            intro r hQ g69 oQ fQ rq hm69
            refine hd_iload pkX0_invert rfl rfl ?_
            refine hd_aload pkX0_invert rfl rfl (Int.natCast_nonneg _) ?_
            refine hd_getI pkX0_invert rfl (g69.1.1.1.1) (g69.1.1.1.2.1) (fun v5 ev5 rv5 => ?_)
            replace ev5 : v5 = ga hQ (161) 12 := ev5
            have qv5 : v5 = n := ev5.trans g69.1.1.1.2.2.2.2
            subst v5
            refine hd_ic_ge pkX0_invert rfl (fun c6 => ?_) (fun c6 => ?_)
            · skip
              refine hd_vret pkX0_invert rfl ?_
              subst eQ
              exact ⟨rfl, oQ, g69, fQ⟩
            · skip
              refine hd_aload pkX0_invert rfl rfl (Int.natCast_nonneg _) ?_
              refine hd_getZ pkX0_invert rfl (g69.1.1.1.1) (g69.1.1.1.2.1) (fun v7 ev7 rv7 => ?_)
              replace ev7 : v7 = ga hQ (161) 10 := ev7
              refine hd_if_eq pkX0_invert rfl (fun c8 => ?_) (fun c8 => ?_)
              · skip
                refine hd_vret pkX0_invert rfl ?_
                subst eQ
                exact ⟨rfl, oQ, g69, fQ⟩
              · skip
                refine hd_ipush (z := 0) pkX0_invert rfl ?_
                refine hd_istore pkX0_invert rfl rfl ?_
                change MW _ _ _ _ _ [(3, (0, 0)), (0, (2, ((161 : Nat) : Int))), (1, (0, ob)), (2, (0, r))] _ _
                have lp78 : ∀ (N78 : Nat) (c : Int) (hJ : MH), IS n hJ → (Only iCs h hJ) → (∀ j : Int, 0 ≤ j → j ≠ 10 → ga hJ 161 j = ga h 161 j) → (0 ≤ c ∧ c ≤ n) → n - c < (N78 : Int) → MW KX0_invert Q 0 0 (pcA pgX0_invert 78) [(0, (2, ((161 : Nat) : Int))), (1, (0, ob)), (2, (0, r)), (3, (0, c))] [] hJ := by
                  intro N78
                  induction N78 with
                  | zero => intro c hJ g78 oJ fJ cb hm78; exfalso; omega
                  | succ N78 ih78 =>
                    intro c hJ g78 oJ fJ cb hm78
                    refine hd_iload pkX0_invert rfl rfl ?_
                    refine hd_aload pkX0_invert rfl rfl (Int.natCast_nonneg _) ?_
                    refine hd_getI pkX0_invert rfl (g78.1.1.1.1) (g78.1.1.1.2.1) (fun v9 ev9 rv9 => ?_)
                    replace ev9 : v9 = ga hJ (161) 12 := ev9
                    have qv9 : v9 = n := ev9.trans g78.1.1.1.2.2.2.2
                    subst v9
                    refine hd_ic_ge pkX0_invert rfl (fun c10 => ?_) (fun c10 => ?_)
                    · skip
                      refine hd_iinc (z := 1) pkX0_invert rfl rfl (by omega) rfl ?_
                      change MW _ _ _ _ _ [(2, (0, (r + 1))), (0, (2, ((161 : Nat) : Int))), (1, (0, ob)), (3, (0, c))] _ _
                      refine hd_goto pkX0_invert rfl ?_
                      refine m_sub [(0, (2, ((161 : Nat) : Int))), (1, (0, ob)), (2, (0, (r + 1)))] (List.forall_mem_cons.mpr ⟨rfl, List.forall_mem_cons.mpr ⟨rfl, List.forall_mem_cons.mpr ⟨rfl, fun _ h => absurd h List.not_mem_nil⟩⟩⟩) ?_
                      refine ih69  ((r + 1)) hJ g78 ?_ ?_ ?_ ?_
                      · exact oJ
                      · exact fJ
                      · omega
                      · omega
                    · skip
                      refine hd_iload pkX0_invert rfl rfl ?_
                      refine hd_iload pkX0_invert rfl rfl ?_
                      refine hd_ishr (v := (Int32.ofInt ob >>> (Int32.ofInt c &&& 31)).toInt) pkX0_invert rfl (by rfl) ?_
                      generalize es3 : (Int32.ofInt ob >>> (Int32.ofInt c &&& 31)).toInt = s3
                      refine hd_ipush (z := 1) pkX0_invert rfl ?_
                      refine hd_iand (v := (Int32.ofInt s3 &&& Int32.ofInt 1).toInt) pkX0_invert rfl (by rfl) ?_
                      generalize es4 : (Int32.ofInt s3 &&& Int32.ofInt 1).toInt = s4
                      refine hd_ipush (z := 1) pkX0_invert rfl ?_
                      refine hd_ic_ne pkX0_invert rfl (fun c11 => ?_) (fun c11 => ?_)
                      · skip
                        refine hd_iinc (z := 1) pkX0_invert rfl rfl (by omega) rfl ?_
                        change MW _ _ _ _ _ [(3, (0, (c + 1))), (0, (2, ((161 : Nat) : Int))), (1, (0, ob)), (2, (0, r))] _ _
                        refine hd_goto pkX0_invert rfl ?_
                        refine m_sub [(0, (2, ((161 : Nat) : Int))), (1, (0, ob)), (2, (0, r)), (3, (0, (c + 1)))] (List.forall_mem_cons.mpr ⟨rfl, List.forall_mem_cons.mpr ⟨rfl, List.forall_mem_cons.mpr ⟨rfl, List.forall_mem_cons.mpr ⟨rfl, fun _ h => absurd h List.not_mem_nil⟩⟩⟩⟩) ?_
                        refine ih78  ((c + 1)) hJ g78 ?_ ?_ ?_ ?_
                        · first | exact oC | exact oJ
                        · first | exact fC | exact fJ
                        · omega
                        · omega
                      · skip
                        refine hd_aload pkX0_invert rfl rfl (Int.natCast_nonneg _) ?_
                        refine hd_iload pkX0_invert rfl rfl ?_
                        refine hd_iload pkX0_invert rfl rfl ?_
                        refine hd_callV pkX0_invert rfl (q := (KX0_cell, yX0_cell, 0, 2, 0)) rfl rfl rfl (As := [(0, r), (0, c)]) (rest := []) (c := 161) rfl rfl (Nat.le_of_ble_eq_true rfl) (g78.1.1.1.1) (g78.1.1.1.2.1) (h_X0_cell ⟨by omega, by omega⟩ ⟨by omega, by omega⟩ g78.1.1) (hd_bR (fun v12 hc14 p13 => ?_))
                        obtain ⟨p13, ehc14⟩ := p13
                        replace ehc14 := ehc14.symm
                        subst ehc14
                        subst p13
                        refine hd_getI pkX0_invert rfl ((g78.1.ob (W := 12) (eC_E ⟨by omega, by omega⟩ ⟨by omega, by omega⟩)).1.1) ((g78.1.ob (W := 12) (eC_E ⟨by omega, by omega⟩ ⟨by omega, by omega⟩)).1.2.1) (fun v15 ev15 rv15 => ?_)
                        replace ev15 : v15 = ga hJ (eC r c) 2 := ev15
                        refine hd_if_eq pkX0_invert rfl (fun c16 => ?_) (fun c16 => ?_)
                        · skip
                          refine hd_iinc (z := 1) pkX0_invert rfl rfl (by omega) rfl ?_
                          change MW _ _ _ _ _ [(3, (0, (c + 1))), (0, (2, ((161 : Nat) : Int))), (1, (0, ob)), (2, (0, r))] _ _
                          refine hd_goto pkX0_invert rfl ?_
                          refine m_sub [(0, (2, ((161 : Nat) : Int))), (1, (0, ob)), (2, (0, r)), (3, (0, (c + 1)))] (List.forall_mem_cons.mpr ⟨rfl, List.forall_mem_cons.mpr ⟨rfl, List.forall_mem_cons.mpr ⟨rfl, List.forall_mem_cons.mpr ⟨rfl, fun _ h => absurd h List.not_mem_nil⟩⟩⟩⟩) ?_
                          refine ih78  ((c + 1)) hJ g78 ?_ ?_ ?_ ?_
                          · first | exact oC | exact oJ
                          · first | exact fC | exact fJ
                          · omega
                          · omega
                        · skip
                          refine hd_aload pkX0_invert rfl rfl (Int.natCast_nonneg _) ?_
                          refine hd_getR (n := 180) pkX0_invert rfl (g78.1.1.1.1) (g78.1.1.1.2.1) (g78.2.2.2.1.1) ?_
                          refine hd_aload pkX0_invert rfl rfl (Int.natCast_nonneg _) ?_
                          refine hd_getR (n := 181) pkX0_invert rfl (g78.1.1.1.1) (g78.1.1.1.2.1) (g78.2.2.2.1.2) ?_
                          refine hd_iload pkX0_invert rfl rfl ?_
                          refine hd_iald (n := 8) pkX0_invert rfl g78.2.2.1 (by omega) (by omega) (fun v17 ev17 rv17 => ?_)
                          have mv17 : 0 ≤ v17 ∧ v17 ≤ 7 := by rw [ev17]; exact g78.2.2.2.2 _ (by omega) (by omega)
                          refine hd_ipush (z := 1) pkX0_invert rfl ?_
                          refine hd_zast (n := 8) pkX0_invert rfl g78.2.1 (by decide) (by omega) (by omega) (by omega) (fun hh18 ehh18 => ?_)
                          have ghh18 : IS n hh18 := by rw [ehh18]; exact g78.wr (by omega) (Or.inl rfl)
                          have oC : Only iCs h hh18 := by rw [ehh18]; exact oJ.set (mem_iCs.mpr (Or.inr (Or.inl rfl)))
                          have fC : ∀ j : Int, 0 ≤ j → j ≠ 10 → ga hh18 161 j = ga h 161 j := fun j a b => by rw [ehh18, ga_ne _ _ _ _ (by decide)]; exact fJ j a b
                          refine hd_iinc (z := 1) pkX0_invert rfl rfl (by omega) rfl ?_
                          change MW _ _ _ _ _ [(3, (0, (c + 1))), (0, (2, ((161 : Nat) : Int))), (1, (0, ob)), (2, (0, r))] _ _
                          refine hd_goto pkX0_invert rfl ?_
                          refine m_sub [(0, (2, ((161 : Nat) : Int))), (1, (0, ob)), (2, (0, r)), (3, (0, (c + 1)))] (List.forall_mem_cons.mpr ⟨rfl, List.forall_mem_cons.mpr ⟨rfl, List.forall_mem_cons.mpr ⟨rfl, List.forall_mem_cons.mpr ⟨rfl, fun _ h => absurd h List.not_mem_nil⟩⟩⟩⟩) ?_
                          refine ih78  ((c + 1)) hh18 ghh18 ?_ ?_ ?_ ?_
                          · first | exact oC | exact oJ
                          · first | exact fC | exact fJ
                          · omega
                          · omega
                refine m_sub [(0, (2, ((161 : Nat) : Int))), (1, (0, ob)), (2, (0, r)), (3, (0, 0))] (List.forall_mem_cons.mpr ⟨rfl, List.forall_mem_cons.mpr ⟨rfl, List.forall_mem_cons.mpr ⟨rfl, List.forall_mem_cons.mpr ⟨rfl, fun _ h => absurd h List.not_mem_nil⟩⟩⟩⟩) ?_
                refine lp78 ((n - (0)) + 1).toNat (0) hQ g69 ?_ ?_ ?_ ?_
                · exact oQ
                · exact fQ
                · omega
                · omega
        refine m_sub [(0, (2, ((161 : Nat) : Int))), (1, (0, ob)), (2, (0, 0))] (List.forall_mem_cons.mpr ⟨rfl, List.forall_mem_cons.mpr ⟨rfl, List.forall_mem_cons.mpr ⟨rfl, fun _ h => absurd h List.not_mem_nil⟩⟩⟩) ?_
        refine lp69 ((n - (0)) + 1).toNat (0) hP g13 ?_ ?_ ?_ ?_
        · exact oP
        · exact fP
        · omega
        · omega
      · skip
        have bpp : BV1 hP (eC p p) 12 (V p.toNat p.toNat) := ev9 p p pb.1 (by omega) pb.1 (by omega)
        refine hd_aload pkX0_invert rfl rfl (Int.natCast_nonneg _) ?_
        refine hd_iload pkX0_invert rfl rfl ?_
        refine hd_iload pkX0_invert rfl rfl ?_
        refine hd_callV pkX0_invert rfl (q := (KX0_cell, yX0_cell, 0, 2, 0)) rfl rfl rfl (As := [(0, p), (0, p)]) (rest := []) (c := 161) rfl rfl (Nat.le_of_ble_eq_true rfl) (g13.1.1.1.1) (g13.1.1.1.2.1) (h_X0_cell ⟨by omega, by omega⟩ ⟨by omega, by omega⟩ g13.1.1) (hd_bR (fun v19 hc21 p20 => ?_))
        obtain ⟨p20, ehc21⟩ := p20
        replace ehc21 := ehc21.symm
        subst ehc21
        subst p20
        refine hd_getI pkX0_invert rfl ((g13.1.ob (W := 12) (eC_E ⟨by omega, by omega⟩ ⟨by omega, by omega⟩)).1.1) ((g13.1.ob (W := 12) (eC_E ⟨by omega, by omega⟩ ⟨by omega, by omega⟩)).1.2.1) (fun v22 ev22 rv22 => ?_)
        replace ev22 : v22 = ga hP (eC p p) 2 := ev22
        have z1 : v22 = 0 ↔ V p.toNat p.toNat = 0 := by rw [show v22 = (V p.toNat p.toNat).sign from ev22.trans bpp.2.2.2.1]; exact bv_sign
        refine hd_if_ne pkX0_invert rfl (fun c23 => ?_) (fun c23 => ?_)
        · skip
          have c0 : V p.toNat p.toNat ≠ 0 := by omega
          have pn : p.toNat < n.toNat := by omega
          have nm : n.toNat ≤ (2 * n).toNat := by omega
          have qP : qf p.toNat = false := Bool.eq_false_iff.mpr fun w => by have := qp _ w; omega
          obtain ⟨W, w1, w2, w3⟩ := gq.stepZ nm pn qP c0
          have D0 : D ≠ 0 := fun w => gq.1 (by rw [w]; rfl)
          have sV : ∀ x c : Int, 0 ≤ x → x < n → 0 ≤ c → c < 2 * n → (V x.toNat c.toNat).natAbs < 1073741824 ^ 12 := fun x c x0 x1 y0 y1 => gq.size nm (by omega) bB (by omega) (by omega)
          have sW : ∀ x c : Int, 0 ≤ x → x < n → 0 ≤ c → c < 2 * n → (W x.toNat c.toNat).natAbs < 1073741824 ^ 12 := fun x c x0 x1 y0 y1 => w3.size nm (by omega) bB (by omega) (by omega)
          refine hd_ipush (z := 0) pkX0_invert rfl ?_
          refine hd_istore pkX0_invert rfl rfl ?_
          change MW _ _ _ _ _ [(3, (0, 0)), (0, (2, ((161 : Nat) : Int))), (1, (0, ob)), (2, (0, p))] _ _
          have lp43 : ∀ (N43 : Nat) (r : Int) (hR : MH), IS n hR → (Only iCs h hR) → (∀ j : Int, 0 ≤ j → j ≠ 10 → ga hR 161 j = ga h 161 j) → (0 ≤ r ∧ r ≤ n) → (EV n (fun x c => if x < r ∧ x ≠ p then W x.toNat c.toNat else V x.toNat c.toNat) hR) → (BV1 hR 491 160 D) → n - r < (N43 : Int) → MW KX0_invert Q 0 0 (pcA pgX0_invert 43) [(0, (2, ((161 : Nat) : Int))), (1, (0, ob)), (2, (0, p)), (3, (0, r))] [] hR := by
            intro N43
            induction N43 with
            | zero => intro r hR g43 oR fR rb evR b0R hm43; exfalso; omega
            | succ N43 ih43 =>
              intro r hR g43 oR fR rb evR b0R hm43
              refine hd_iload pkX0_invert rfl rfl ?_
              refine hd_aload pkX0_invert rfl rfl (Int.natCast_nonneg _) ?_
              refine hd_getI pkX0_invert rfl (g43.1.1.1.1) (g43.1.1.1.2.1) (fun v24 ev24 rv24 => ?_)
              replace ev24 : v24 = ga hR (161) 12 := ev24
              have qv24 : v24 = n := ev24.trans g43.1.1.1.2.2.2.2
              subst v24
              refine hd_ic_ge pkX0_invert rfl (fun c25 => ?_) (fun c25 => ?_)
              · skip
                have evW : EV n (fun x c => W x.toNat c.toNat) hR := fun x c x0 x1 y0 y1 => by
                  have b := evR x c x0 x1 y0 y1
                  dsimp only at b
                  show BV1 _ _ _ (W x.toNat c.toNat)
                  by_cases q : x = p
                  · rw [if_neg (by omega)] at b
                    rw [q] at b ⊢
                    rw [w1]
                    exact b
                  · rw [if_pos (by omega)] at b
                    exact b
                have bW := evW p p pb.1 (by omega) pb.1 (by omega)
                refine hd_aload pkX0_invert rfl rfl (Int.natCast_nonneg _) ?_
                refine hd_getR (n := 193) pkX0_invert rfl (g43.1.1.1.1) (g43.1.1.1.2.1) (g43.1.1.1.2.2.2.1) ?_
                refine hd_ipush (z := 0) pkX0_invert rfl ?_
                refine hd_aid pkX0_invert rfl g43.1 0 491 (by decide) rfl ?_
                refine hd_aload pkX0_invert rfl rfl (Int.natCast_nonneg _) ?_
                refine hd_iload pkX0_invert rfl rfl ?_
                refine hd_iload pkX0_invert rfl rfl ?_
                refine hd_callV pkX0_invert rfl (q := (KX0_cell, yX0_cell, 0, 2, 0)) rfl rfl rfl (As := [(0, p), (0, p)]) (rest := [(2, ((491 : Nat) : Int))]) (c := 161) rfl rfl (Nat.le_of_ble_eq_true rfl) (g43.1.1.1.1) (g43.1.1.1.2.1) (h_X0_cell ⟨by omega, by omega⟩ ⟨by omega, by omega⟩ g43.1.1) (hd_bR (fun v26 hc28 p27 => ?_))
                obtain ⟨p27, ehc28⟩ := p27
                replace ehc28 := ehc28.symm
                subst ehc28
                subst p27
                refine hd_callV pkX0_invert rfl (q := (KX1_copy, yX1_copy, 1, 1, 0)) rfl rfl rfl (As := [(2, ((eC p p : Nat) : Int))]) (rest := []) (c := 491) rfl rfl (Nat.le_of_ble_eq_true rfl) ((g43.1.ob (W := 160) (aE 0 (by decide) rfl)).1.1) ((g43.1.ob (W := 160) (aE 0 (by decide) rfl)).1.2.1) (e_copy (V := W p.toNat p.toNat) g43.1 (aE 0 (by decide) rfl) (eC_E ⟨by omega, by omega⟩ ⟨by omega, by omega⟩) (by have := eC_b (r := p) (c := p) ⟨by omega, by omega⟩ ⟨by omega, by omega⟩; omega) bW (by have := bW.1; omega)) (hd_bV (fun hc29 pF => ?_))
                have ghc29 : IS n hc29 := g43.call pF.1 pF.2.1 (fun c hc => by simp only [List.mem_cons, List.not_mem_nil, or_false] at hc; omega)
                have oB : Only iCs h hc29 := oR.trans ((only_e2 (aE 0 (by decide) rfl) pF.1).mono eCs_i)
                have fB : ∀ j : Int, 0 ≤ j → j ≠ 10 → ga hc29 161 j = ga h 161 j := fun j a b => (pF.1.ga (by decide) j).trans (fR j a b)
                have ivB : IV n B (p + 1) hc29 := ⟨k + 1, W, _, _, V p.toNat p.toNat, by omega, w3, fun x w => by
                  by_cases z : x = p.toNat
                  · omega
                  · rw [if_neg z] at w
                    have := qp x w
                    omega, evW.ol n8.2 pF.1 (by decide), by rw [← w1]; exact pF.2.2⟩
                refine hd_iinc (z := 1) pkX0_invert rfl rfl (by omega) rfl ?_
                change MW _ _ _ _ _ [(2, (0, (p + 1))), (0, (2, ((161 : Nat) : Int))), (1, (0, ob)), (3, (0, r))] _ _
                refine hd_goto pkX0_invert rfl ?_
                refine m_sub [(0, (2, ((161 : Nat) : Int))), (1, (0, ob)), (2, (0, (p + 1)))] (List.forall_mem_cons.mpr ⟨rfl, List.forall_mem_cons.mpr ⟨rfl, List.forall_mem_cons.mpr ⟨rfl, fun _ h => absurd h List.not_mem_nil⟩⟩⟩) ?_
                refine ih13  (ob) ((p + 1)) hc29 ghc29 ?_ ?_ ?_ ?_ ?_
                · first | exact oB | exact oA
                · first | exact fB | exact fA
                · omega
                · first | exact ivB | exact ivA
                · omega
              · skip
                refine hd_iload pkX0_invert rfl rfl ?_
                refine hd_iload pkX0_invert rfl rfl ?_
                refine hd_ic_eq pkX0_invert rfl (fun c30 => ?_) (fun c30 => ?_)
                · skip
                  have evE : EV n (fun x c => if x < r + 1 ∧ x ≠ p then W x.toNat c.toNat else V x.toNat c.toNat) hR := evR.cg fun x c => if_cg (by omega)
                  have oE := oR
                  have fE := fR
                  have b0E := b0R
                  refine hd_iinc (z := 1) pkX0_invert rfl rfl (by omega) rfl ?_
                  change MW _ _ _ _ _ [(3, (0, (r + 1))), (0, (2, ((161 : Nat) : Int))), (1, (0, ob)), (2, (0, p))] _ _
                  refine hd_goto pkX0_invert rfl ?_
                  refine m_sub [(0, (2, ((161 : Nat) : Int))), (1, (0, ob)), (2, (0, p)), (3, (0, (r + 1)))] (List.forall_mem_cons.mpr ⟨rfl, List.forall_mem_cons.mpr ⟨rfl, List.forall_mem_cons.mpr ⟨rfl, List.forall_mem_cons.mpr ⟨rfl, fun _ h => absurd h List.not_mem_nil⟩⟩⟩⟩) ?_
                  refine ih43  ((r + 1)) hR g43 ?_ ?_ ?_ ?_ ?_ ?_
                  · exact oE
                  · exact fE
                  · omega
                  · exact evE
                  · exact b0E
                  · omega
                · skip
                  refine hd_aload pkX0_invert rfl rfl (Int.natCast_nonneg _) ?_
                  refine hd_iload pkX0_invert rfl rfl ?_
                  refine hd_iload pkX0_invert rfl rfl ?_
                  refine hd_callV pkX0_invert rfl (q := (KX0_eliminate, yX0_eliminate, 0, 2, 0)) rfl rfl rfl (As := [(0, r), (0, p)]) (rest := []) (c := 161) rfl rfl (Nat.le_of_ble_eq_true rfl) (g43.1.1.1.1) (g43.1.1.1.2.1) (h_X0_eliminate (V := fun x c => if x < r ∧ x ≠ p then W x.toNat c.toNat else V x.toNat c.toNat) (W := fun x c => W x.toNat c.toNat) n8 ⟨rb.1, by omega⟩ ⟨pb.1, by omega⟩ (by omega) D0 (fun x c x0 x1 y0 y1 => by split <;> first | exact sW x c x0 x1 y0 y1 | exact sV x c x0 x1 y0 y1) (fun c y0 y1 => sW r c rb.1 (by omega) y0 y1) (fun c y0 y1 => by have a1 : ¬ (r < r ∧ r ≠ p) := (by omega); have a2 : ¬ (p < r ∧ p ≠ p) := (by omega); simp only [if_neg a1, if_neg a2]; exact w2 r.toNat c.toNat (by omega) (by omega) (by omega)) evR b0R g43.1) (hd_bV (fun hc31 pE => ?_))
                  have ghc31 : IS n hc31 := g43.call pE.1 pE.2.1 (fun c hc => by have := mem_eCs.mp hc; omega)
                  have oE : Only iCs h hc31 := oR.trans (pE.1.mono eCs_i)
                  have fE : ∀ j : Int, 0 ≤ j → j ≠ 10 → ga hc31 161 j = ga h 161 j := fun j a b => (pE.1.ga (fun w => by have := mem_eCs.mp w; omega) j).trans (fR j a b)
                  have evE : EV n (fun x c => if x < r + 1 ∧ x ≠ p then W x.toNat c.toNat else V x.toNat c.toNat) hc31 := pE.2.2.1.cg fun x c => by
                    by_cases q : x = r
                    · rw [if_pos q, if_pos (by omega)]
                    · rw [if_neg q]
                      exact if_cg (by omega)
                  have b0E := pE.2.2.2
                  refine hd_iinc (z := 1) pkX0_invert rfl rfl (by omega) rfl ?_
                  change MW _ _ _ _ _ [(3, (0, (r + 1))), (0, (2, ((161 : Nat) : Int))), (1, (0, ob)), (2, (0, p))] _ _
                  refine hd_goto pkX0_invert rfl ?_
                  refine m_sub [(0, (2, ((161 : Nat) : Int))), (1, (0, ob)), (2, (0, p)), (3, (0, (r + 1)))] (List.forall_mem_cons.mpr ⟨rfl, List.forall_mem_cons.mpr ⟨rfl, List.forall_mem_cons.mpr ⟨rfl, List.forall_mem_cons.mpr ⟨rfl, fun _ h => absurd h List.not_mem_nil⟩⟩⟩⟩) ?_
                  refine ih43  ((r + 1)) hc31 ghc31 ?_ ?_ ?_ ?_ ?_ ?_
                  · exact oE
                  · exact fE
                  · omega
                  · exact evE
                  · exact b0E
                  · omega
          refine m_sub [(0, (2, ((161 : Nat) : Int))), (1, (0, ob)), (2, (0, p)), (3, (0, 0))] (List.forall_mem_cons.mpr ⟨rfl, List.forall_mem_cons.mpr ⟨rfl, List.forall_mem_cons.mpr ⟨rfl, List.forall_mem_cons.mpr ⟨rfl, fun _ h => absurd h List.not_mem_nil⟩⟩⟩⟩) ?_
          refine lp43 ((n - (0)) + 1).toNat (0) hP g13 ?_ ?_ ?_ ?_ ?_ ?_
          · exact oP
          · exact fP
          · omega
          · intro x c x0 x1 y0 y1
            dsimp only
            rw [if_neg (by omega)]
            exact ev9 x c x0 x1 y0 y1
          · exact b9
          · omega
        · skip
          refine hd_aload pkX0_invert rfl rfl (Int.natCast_nonneg _) ?_
          refine hd_ipush (z := 1) pkX0_invert rfl ?_
          refine hd_putZ pkX0_invert rfl (g13.1.1.1.1) (g13.1.1.1.2.1) (by omega) (fun hh32 ehh32 => ?_)
          replace ehh32 : hh32 = sa hP 161 10 1 := ehh32
          have ghh32 : IS n hh32 := by rw [ehh32]; exact g13.wr (by decide) (Or.inr ⟨rfl, rfl⟩)
          have oL : Only iCs h hh32 := by rw [ehh32]; exact oP.set (mem_iCs.mpr (Or.inl rfl))
          have fL : ∀ j : Int, 0 ≤ j → j ≠ 10 → ga hh32 161 j = ga h 161 j := fun j a b => by rw [ehh32, ga_sa _ _ _ (by decide) a, if_neg b]; exact fP j a b
          have uL : Only [161, 180] hP hh32 := by rw [ehh32]; exact (Only.refl _ _).set List.mem_cons_self
          refine hd_iload pkX0_invert rfl rfl ?_
          refine hd_ipush (z := 1) pkX0_invert rfl ?_
          refine hd_iload pkX0_invert rfl rfl ?_
          refine hd_ishl (v := (Int32.ofInt 1 <<< (Int32.ofInt p &&& 31)).toInt) pkX0_invert rfl (by rfl) ?_
          generalize es1 : (Int32.ofInt 1 <<< (Int32.ofInt p &&& 31)).toInt = s1
          refine hd_ior (v := (Int32.ofInt ob ||| Int32.ofInt s1).toInt) pkX0_invert rfl (by rfl) ?_
          generalize es2 : (Int32.ofInt ob ||| Int32.ofInt s1).toInt = s2
          refine hd_istore pkX0_invert rfl rfl ?_
          change MW _ _ _ _ _ [(1, (0, s2)), (0, (2, ((161 : Nat) : Int))), (2, (0, p))] _ _
          refine hd_aload pkX0_invert rfl rfl (Int.natCast_nonneg _) ?_
          refine hd_getR (n := 180) pkX0_invert rfl (ghh32.1.1.1.1) (ghh32.1.1.1.2.1) (ghh32.2.2.2.1.1) ?_
          refine hd_aload pkX0_invert rfl rfl (Int.natCast_nonneg _) ?_
          refine hd_getR (n := 181) pkX0_invert rfl (ghh32.1.1.1.1) (ghh32.1.1.1.2.1) (ghh32.2.2.2.1.2) ?_
          refine hd_iload pkX0_invert rfl rfl ?_
          refine hd_iald (n := 8) pkX0_invert rfl ghh32.2.2.1 (by omega) (by omega) (fun v33 ev33 rv33 => ?_)
          have mv33 : 0 ≤ v33 ∧ v33 ≤ 7 := by rw [ev33]; exact ghh32.2.2.2.2 _ (by omega) (by omega)
          refine hd_ipush (z := 1) pkX0_invert rfl ?_
          refine hd_zast (n := 8) pkX0_invert rfl ghh32.2.1 (by decide) (by omega) (by omega) (by omega) (fun hh34 ehh34 => ?_)
          have ghh34 : IS n hh34 := by rw [ehh34]; exact ghh32.wr (by omega) (Or.inl rfl)
          have oA : Only iCs h hh34 := by rw [ehh34]; exact oL.set (mem_iCs.mpr (Or.inr (Or.inl rfl)))
          have fA : ∀ j : Int, 0 ≤ j → j ≠ 10 → ga hh34 161 j = ga h 161 j := fun j a b => by rw [ehh34, ga_ne _ _ _ _ (by decide)]; exact fL j a b
          have uA : Only [161, 180] hP hh34 := by rw [ehh34]; exact uL.set (by decide)
          have ivA : IV n B (p + 1) hh34 := ⟨k, V, pf, qf, D, by omega, gq, fun r w => by have := qp r w; omega, ev9.ol n8.2 uA (by decide), b9.ol uA (by decide) (by decide)⟩
          refine hd_goto pkX0_invert rfl ?_
          refine hd_iinc (z := 1) pkX0_invert rfl rfl (by omega) rfl ?_
          change MW _ _ _ _ _ [(2, (0, (p + 1))), (1, (0, s2)), (0, (2, ((161 : Nat) : Int)))] _ _
          refine hd_goto pkX0_invert rfl ?_
          refine m_sub [(0, (2, ((161 : Nat) : Int))), (1, (0, s2)), (2, (0, (p + 1)))] (List.forall_mem_cons.mpr ⟨rfl, List.forall_mem_cons.mpr ⟨rfl, List.forall_mem_cons.mpr ⟨rfl, fun _ h => absurd h List.not_mem_nil⟩⟩⟩) ?_
          refine ih13  (s2) ((p + 1)) hh34 ghh34 ?_ ?_ ?_ ?_ ?_
          · first | exact oB | exact oA
          · first | exact fB | exact fA
          · omega
          · first | exact ivB | exact ivA
          · omega
  refine m_sub [(0, (2, ((161 : Nat) : Int))), (1, (0, 0)), (2, (0, 0))] (List.forall_mem_cons.mpr ⟨rfl, List.forall_mem_cons.mpr ⟨rfl, List.forall_mem_cons.mpr ⟨rfl, fun _ h => absurd h List.not_mem_nil⟩⟩⟩) ?_
  refine lp13 ((n - (0)) + 1).toNat (0) (0) hc2 ghc2 ?_ ?_ ?_ ?_ ?_
  · exact o1
  · exact f1
  · omega
  · exact iv1
  · omega
