/-! the run of a constructor tells the truth: all rows -/
theorem crun_of : ∀ (n m i : Nat) (L : List (Nat × MV)) (S : List MV) (H : CH) (o : MO) (H' : CH), crun n m i L S H = some (o, H') → 4 ≤ H.1 → m < 842 → CrOk m i L S H o H'
  | 0, _, _, _, _, _, _, _, e, _, _ => by cases e
  | n + 1, m, i, L, S, H, o, H', e, h4, hm => by
    unfold crun at e
    split at e
    · cases e
    next mi hmi =>
    have hi : (uP m).1[i]? = some mi := by rw [← zget_el]; exact hmi
    have okp := uOkP hm
    have okr := okP_at okp hi
    have hpc : pcA (uP m) i = mi.1 := by
      unfold pcA
      rw [hi]
    -- a constructor's row
    have ctor : Nat.blt m 821 = false → okI (uK m) (uO m) (uP m) i mi = true ∧ (uK m).1 = 3 := fun q => by
      have hu : uK m = kI (m - 821) := by unfold uK; rw [q, cond_false]
      have hv : uP m = pgI (m - 821) := by unfold uP; rw [q, cond_false]
      have hw : uO m = m - 821 := by unfold uO; rw [q, cond_false]
      have := bltF q
      rw [hv] at hmi
      have z := okIG_at _ 0 (pgI_ok (m - 821) (by omega)) i mi hmi
      rw [Nat.zero_add] at z
      rw [hu, hv, hw]
      exact ⟨z, (IFk_ok _ (by omega)).2.2.2.2.2.2.2.1⟩
    obtain ⟨pc, op, z, a, b, c⟩ := mi
    replace hpc : pcA (uP m) i = pc := hpc
    split at e
    · -- 63
      next h =>
      replace h : op = 63 := h; subst h
      split at e
      · cases e
        refine ⟨⟨Nat.le_refl _, Nat.le_refl _⟩, fun hb Q mc ms _ _ hq => so1 okp hi ?_⟩
        exact ⟨rfl, hq hb (ag4.refl _)⟩
      · cases e
    · -- 67
      next h =>
      replace h : op = 67 := h; subst h
      split at e
      · next q hq =>
        replace hq : mtab[a]? = some q := by rw [← zget_el]; exact hq
        split at e
        · next as r rest hsp =>
          cases w : (Nat.blt a 821 && (Nat.beq q.2.2.2.2 0 && (Nat.beq q.1.1 0 && (fitB (uK m) q.1 && (Nat.beq r.1 2 && (zIn r.2 && (cwd rest && (Nat.ble (mwid (r :: as)) q.1.2.2.2.1 && Nat.beq (pcA (pgT a) 0) 0)))))))) with
          | false =>
            replace e : (bif (Nat.blt a 821 && (Nat.beq q.2.2.2.2 0 && (Nat.beq q.1.1 0 && (fitB (uK m) q.1 && (Nat.beq r.1 2 && (zIn r.2 && (cwd rest && (Nat.ble (mwid (r :: as)) q.1.2.2.2.1 && Nat.beq (pcA (pgT a) 0) 0)))))))) then _ else none) = some (o, H') := e
            rw [w] at e; cases e
          | true =>
            replace e : (bif (Nat.blt a 821 && (Nat.beq q.2.2.2.2 0 && (Nat.beq q.1.1 0 && (fitB (uK m) q.1 && (Nat.beq r.1 2 && (zIn r.2 && (cwd rest && (Nat.ble (mwid (r :: as)) q.1.2.2.2.1 && Nat.beq (pcA (pgT a) 0) 0)))))))) then (match cAt H r.2.toNat with
              | some c => bif Nat.beq c.1 (16 + q.2.2.1) then (match crun n a 0 (margs 0 (r :: as)) [] H with
                | some (o, H1) => bif Nat.beq o.1 0 then crun n m (i + 1) L rest H1 else bif Nat.beq o.1 1 then crun n m (i + 1) L (o.2 :: rest) H1 else none
                | none => none) else none
              | none => none) else none) = some (o, H') := e
            rw [w, cond_true] at e
            obtain ⟨w1, w2⟩ := andB w
            obtain ⟨w2, w3⟩ := andB w2
            obtain ⟨wk, w3⟩ := andB w3
            obtain ⟨w3, w4⟩ := andB w3
            obtain ⟨w4, w5⟩ := andB w4
            obtain ⟨w5, w6⟩ := andB w5
            obtain ⟨w6, w7⟩ := andB w6
            obtain ⟨w7, w8⟩ := andB w7
            have w1 := bltN w1
            have w4 := beqN w4
            have w5 := zIn_of w5
            split at e
            · next cc hc =>
              cases v : Nat.beq cc.1 (16 + q.2.2.1) with
              | false => rw [v] at e; cases e
              | true =>
                rw [v, cond_true] at e
                split at e
                · next o1 H1 e1 =>
                  obtain ⟨⟨c1, c2⟩, c3⟩ := crun_of n a 0 _ _ H o1 H1 e1 h4 (by omega)
                  obtain ⟨hS, hn⟩ := cspl_of hsp
                  have hr : r = (2, r.2) := Prod.ext w4 rfl
                  have uk : uK a = q.1 := by
                    unfold uK
                    rw [bltT w1]
                    exact kT_of hq
                  have up : uP a = pgT a := by
                    unfold uP
                    rw [bltT w1]
                    rfl
                  have mf := mtab_ok q (List.mem_of_getElem? hq)
                  have call : ∀ (hb : MH), MCal q.1 q.2.1 (H1.1 - H.1) (H1.2.1 - H.2.1) ((2, r.2) :: as) (cMH hb H) (fun o' h' => o' = o1 ∧ ∃ hb', ag4 hb hb' ∧ h' = cMH hb' H1) := fun hb => by
                    refine MCal.ofMW (Or.inl (beqN wk)) ⟨mf.2.1, mf.2.2.1⟩ ?_ ?_ (fun e => by rw [beqN wk] at e; cases e)
                    · rw [← hr]; exact bleN w7
                    · have k := c3 hb (fun o' h' => o' = o1 ∧ ∃ hb', ag4 hb hb' ∧ h' = cMH hb' H1) _ _ (Nat.le_refl _) (Nat.le_refl _) fun hb' a' => ⟨rfl, hb', a', rfl⟩
                      rw [uk, up, beqN w8, hr] at k
                      exact k
                  have hkd : ∀ hb, ((cMH hb H).2 r.2.toNat).1 = 16 + q.2.2.1 := fun hb => by
                    rw [cMH_at hc]
                    exact beqN v
                  cases v0 : Nat.beq o1.1 0 with
                  | true =>
                    rw [v0, cond_true] at e
                    have r2 := crun_of n m (i + 1) L rest H1 o H' e (by omega) hm
                    refine ⟨⟨Nat.le_trans c1 r2.1.1, Nat.le_trans c2 r2.1.2⟩, fun hb Q mc ms h1 h2 hq' => ?_⟩
                    have g1 := r2.1.1
                    have g2 := r2.1.2
                    rw [hS, hr]
                    refine g_callV okp hi hq (beqN w2) w3 hn (bleN w6) ⟨w5, (cAt_lt hc).2, hkd hb⟩ (show H1.1 - H.1 ≤ mc by omega) (show H1.2.1 - H.2.1 ≤ ms by omega) (call hb) fun o' h' p => ?_
                    obtain ⟨p1, hb', p2, p3⟩ := p
                    subst p1 p3
                    refine ⟨fun _ => r2.2 hb' Q _ _ (by omega) (by omega) fun hb2 a2 => hq' hb2 (p2.trans a2), fun z1 => ?_⟩
                    rw [beqN v0] at z1
                    cases z1
                  | false =>
                    rw [v0, cond_false] at e
                    cases v1 : Nat.beq o1.1 1 with
                    | false => rw [v1] at e; cases e
                    | true =>
                      rw [v1, cond_true] at e
                      have r2 := crun_of n m (i + 1) L (o1.2 :: rest) H1 o H' e (by omega) hm
                      refine ⟨⟨Nat.le_trans c1 r2.1.1, Nat.le_trans c2 r2.1.2⟩, fun hb Q mc ms h1 h2 hq' => ?_⟩
                      have g1 := r2.1.1
                      have g2 := r2.1.2
                      rw [hS, hr]
                      refine g_callV okp hi hq (beqN w2) w3 hn (bleN w6) ⟨w5, (cAt_lt hc).2, hkd hb⟩ (show H1.1 - H.1 ≤ mc by omega) (show H1.2.1 - H.2.1 ≤ ms by omega) (call hb) fun o' h' p => ?_
                      obtain ⟨p1, hb', p2, p3⟩ := p
                      subst p1 p3
                      refine ⟨fun z0 => ?_, fun _ => r2.2 hb' Q _ _ (by omega) (by omega) fun hb2 a2 => hq' hb2 (p2.trans a2)⟩
                      rw [beqN v1] at z0
                      cases z0
                · cases e
            · cases e
        · cases e
      · cases e
    · -- 99
      next h =>
      replace h : op = 99 := h; subst h
      cases u : Nat.blt m 821 with
      | false => rw [u] at e; cases e
      | true =>
        rw [u, cond_true] at e
        have hu : uK m = kT m := by unfold uK; rw [u, cond_true]
        have hv : uP m = pgT m := by unfold uP; rw [u, cond_true]
        have u := bltN u
        split at e
        · next x1 x2 hf =>
          split at e
          · next v r rest =>
            cases w : (Nat.beq v.1 0 && (Nat.beq r.1 2 && (zIn r.2 && cwd rest))) with
            | false => rw [w] at e; cases e
            | true =>
              rw [w, cond_true] at e
              obtain ⟨w1, w2⟩ := andB w
              obtain ⟨w2, w3⟩ := andB w2
              obtain ⟨w3, w4⟩ := andB w3
              have w3 := zIn_of w3
              split at e
              · next cc hc =>
                cases y : (Nat.beq cc.1 0 && Nat.ble cc.2.1 100000) with
                | false => rw [y] at e; cases e
                | true =>
                  rw [y, cond_true] at e
                  obtain ⟨y1, y2⟩ := andB y
                  have y2 := bleN y2
                  have q := fun hb => cFl_of (hb := hb) (v := v.2) (k := cc.2.1) hc
                  have r2 := crun_of n m (i + 1) L rest _ o H' e (by rw [(q (0, fun _ => (0, 0, fun _ => 0))).2.1]; exact h4) hm
                  refine r2.step0 ⟨(q (0, fun _ => (0, 0, fun _ => 0))).2.1, (q (0, fun _ => (0, 0, fun _ => 0))).2.2.1⟩ fun hb Q mc ms k => ?_
                  have oo := (andB (okX_at hf)).2
                  have oo : (okT (kT m) (pcA (pgT m) i) (.invokestatic x1) 3 && (Nat.beq (pcA (pgT m) i + 3) (pcA (pgT m) (i + 1)) && (fitB (kT m) kFI && in3 80 (ownT m) x1 XW))) = true := oo
                  obtain ⟨o1, o2⟩ := andB oo
                  obtain ⟨o2, o3⟩ := andB o2
                  obtain ⟨o3, o4⟩ := andB o3
                  rw [hu, hv] at k ⊢
                  rw [show v = (0, v.2) from Prod.ext (beqN w1) rfl, show r = (2, r.2) from Prod.ext (beqN w2) rfl]
                  have hl := cAt_lt hc
                  refine m_invokestaticX (K' := kFI) (y := yJ7_fill_53178) (As := [(2, r.2), (0, v.2)]) (S := rest) (okT_of o1) (fun _ => by decide) ⟨lo_J7_fill_53178, li_J7⟩ ⟨XW_at u o4, lv_J7_fill_53178_s⟩ ⟨by decide, by decide, (by show _ = some 2; decide +kernel)⟩ (fitB_of o3).1 (bleN w4) rfl (Nat.zero_le _) (Nat.zero_le _) (fillI_of (h := cMH hb H) w3 hl.1 hl.2 (by rw [cMH_at hc]; exact beqN y1) (by rw [cMH_at hc]; show cc.2.1 ≤ _; omega)) fun o' h' p => ?_
                  obtain ⟨p1, p2⟩ := p
                  subst p2
                  have e9 : hfill (cMH hb H) r.2.toNat 0 ((cMH hb H).2 r.2.toNat).2.1 v.2 = cMH hb (cFl H r.2.toNat v.2 cc.2.1) := by
                    rw [(q hb).1, cMH_at hc]
                    rfl
                  refine ⟨fun _ => ?_, fun z1 => by rw [p1] at z1; cases z1⟩
                  rw [e9, beqN o2]
                  exact k
              · cases e
          · cases e
        · cases e
    · -- 110
      next h =>
      replace h : op = 110 := h; subst h
      cases u : Nat.blt m 821 with
      | true => rw [u] at e; cases e
      | false =>
        rw [u, cond_false] at e
        have okc := (ctor u).1
        split at e
        · next r hr =>
          replace hr : mcl[a]? = some r := by rw [← zget_el]; exact hr
          have r2 := crun_of n m (i + 1) L _ _ o H' e (by show 4 ≤ H.1 + 1; omega) hm
          have q := and2 okc
          have d := okD_of q.1
          obtain ⟨C, T, N⟩ := r
          obtain ⟨g1, g2, ty0, g3, g4⟩ := CMk_ok (C, T, N) (List.mem_of_getElem? hr)
          have lk := NWt_ok (uO m) (b, a) (List.contains_iff_mem.mp q.2)
          have hmc : mcn a = C := by
            unfold mcn
            rw [hr]
          refine r2.step ⟨Nat.le_succ _, Nat.le_add_right _ _⟩ fun hb Q mc ms h1 h2 => ⟨hb, ag4.refl _, fun k => ?_⟩
          rw [hpc]
          replace lk : Cond.classLink (mcn (uO m)) b (mcn a) ∈ mTB := lk
          rw [hmc, ← okr.2] at lk
          refine m_new _ d.1 d.2 hr (mcl_ok _ (List.mem_of_getElem? hr)).1 g3 g4 ⟨lk, g1, g2⟩ (show 1 ≤ mc by have : H.1 + 1 - H.1 ≤ mc := h1; omega) (show N ≤ ms by have : H.2.1 + N - H.2.1 ≤ ms := h2; omega) ?_
          rw [cMH_new h4] at k
          replace k : MW (uK m) Q (mc - (H.1 + 1 - H.1)) (ms - (H.2.1 + N - H.2.1)) (pcA (uP m) (i + 1)) L ((2, (H.1 : Int)) :: S) (hnew (cMH hb H) (cMC (16 + a, N, 2, []))) := k
          rw [show H.1 + 1 - H.1 = 1 by omega, show H.2.1 + N - H.2.1 = N by omega] at k
          have e8 : (cMC (16 + a, N, 2, []) : MC) = (16 + a, N, fun j => mdef (mft a j)) := by
            show (16 + a, N, fun j => mdef (mft (16 + a - 16) j)) = _
            rw [show 16 + a - 16 = a by omega]
          rw [e8] at k
          exact k
        · cases e
    · -- 111
      next h =>
      replace h : op = 111 := h; subst h
      cases u : Nat.blt m 821 with
      | true => rw [u] at e; cases e
      | false =>
        rw [u, cond_false] at e
        have okc := (ctor u).1
        split at e
        · next v S0 =>
          cases w : (Nat.beq v.1 0 && (zIn v.2 && zIn (10000000 - v.2))) with
          | false => rw [w] at e; cases e
          | true =>
            rw [w, cond_true] at e
            obtain ⟨w1, w2⟩ := andB w
            obtain ⟨w2, w3⟩ := andB w2
            have w2 := zIn_of w2
            have w3 := zIn_of w3
            have r2 := crun_of n m (i + 1) L _ _ o H' e (by show 4 ≤ H.1 + 1; omega) hm
            have q := and2 okc
            have d := okD_of q.1
            have q2 := bleN q.2
            refine r2.step ⟨Nat.le_succ _, Nat.le_add_right _ _⟩ fun hb Q mc ms h1 h2 => ⟨hb, ag4.refl _, fun k => ?_⟩
            have h1 : H.1 + 1 - H.1 ≤ mc := h1
            have h2 : H.2.1 + v.2.toNat - H.2.1 ≤ ms := h2
            rw [hpc, show v = (0, v.2) from Prod.ext (beqN w1) rfl]
            rw [cMH_new h4] at k
            replace k : MW (uK m) Q (mc - (H.1 + 1 - H.1)) (ms - (H.2.1 + v.2.toNat - H.2.1)) (pcA (uP m) (i + 1)) L ((2, (H.1 : Int)) :: S0) (hnew (cMH hb H) (a, v.2.toNat, fun _ => 0)) := k
            rw [show H.1 + 1 - H.1 = 1 by omega, show H.2.1 + v.2.toNat - H.2.1 = v.2.toNat by omega] at k
            have hk : (atO a = .int ∧ a = 0) ∨ (atO a = .long ∧ a = 1) ∨ (atO a = .boolean ∧ a = 2) ∨ (atO a = .byte ∧ a = 3) ∨ (atO a = .char ∧ a = 4) := by
              match a, q2 with
              | 0, _ => exact Or.inl ⟨rfl, rfl⟩
              | 1, _ => exact Or.inr (Or.inl ⟨rfl, rfl⟩)
              | 2, _ => exact Or.inr (Or.inr (Or.inl ⟨rfl, rfl⟩))
              | 3, _ => exact Or.inr (Or.inr (Or.inr (Or.inl ⟨rfl, rfl⟩)))
              | 4, _ => exact Or.inr (Or.inr (Or.inr (Or.inr ⟨rfl, rfl⟩)))
              | a + 5, q2 => exact absurd q2 (by show ¬ a + 5 ≤ 4; omega)
            have hla : Cond.arrayClass (newarray.typeOf (atO a)) ∈ mTB := by
              rcases hk with ⟨e1, -⟩ | ⟨e1, -⟩ | ⟨e1, -⟩ | ⟨e1, -⟩ | ⟨e1, -⟩
              · rw [e1]; exact la_int
              · rw [e1]; exact la_long
              · rw [e1]; exact la_boolean
              · rw [e1]; exact la_byte
              · rw [e1]; exact la_char
            exact m_newarray _ d.1 d.2 hk hla w2 (by omega) (by omega) (by omega) k
        · cases e
    · -- 112
      next h =>
      replace h : op = 112 := h; subst h
      cases u : Nat.blt m 821 with
      | true => rw [u] at e; cases e
      | false =>
        rw [u, cond_false] at e
        have okc := (ctor u).1
        split at e
        · next v S0 =>
          cases w : (Nat.beq v.1 0 && (zIn v.2 && zIn (10000000 - v.2))) with
          | false => rw [w] at e; cases e
          | true =>
            rw [w, cond_true] at e
            obtain ⟨w1, w2⟩ := andB w
            obtain ⟨w2, w3⟩ := andB w2
            have w2 := zIn_of w2
            have w3 := zIn_of w3
            have r2 := crun_of n m (i + 1) L _ _ o H' e (by show 4 ≤ H.1 + 1; omega) hm
            have q := and2 okc
            have d := okD_of q.1
            have lk := NWt_ok (uO m) (b, 1) (List.contains_iff_mem.mp q.2)
            replace lk : Cond.classLink (mcn (uO m)) b "RoadHouse$Big" ∈ mTB := lk
            rw [← okr.2] at lk
            refine r2.step ⟨Nat.le_succ _, Nat.le_add_right _ _⟩ fun hb Q mc ms h1 h2 => ⟨hb, ag4.refl _, fun k => ?_⟩
            have h1 : H.1 + 1 - H.1 ≤ mc := h1
            have h2 : H.2.1 + v.2.toNat - H.2.1 ≤ ms := h2
            rw [hpc, show v = (0, v.2) from Prod.ext (beqN w1) rfl]
            rw [cMH_new h4] at k
            replace k : MW (uK m) Q (mc - (H.1 + 1 - H.1)) (ms - (H.2.1 + v.2.toNat - H.2.1)) (pcA (uP m) (i + 1)) L ((2, (H.1 : Int)) :: S0) (hnew (cMH hb H) (8, v.2.toNat, fun _ => -1)) := k
            rw [show H.1 + 1 - H.1 = 1 by omega, show H.2.1 + v.2.toNat - H.2.1 = v.2.toNat by omega] at k
            exact m_anewBig _ d.1 d.2 lk w2 (by omega) (by omega) (by omega) k
        · cases e
    · -- 118
      next h =>
      replace h : op = 118 := h; subst h
      cases u : Nat.blt m 821 with
      | true => rw [u] at e; cases e
      | false =>
        rw [u, cond_false] at e
        have okc := (ctor u).1
        split at e
        · next v S0 =>
          cases w : (Nat.beq v.1 0 && (zIn v.2 && zIn (10000000 - v.2))) with
          | false => rw [w] at e; cases e
          | true =>
            rw [w, cond_true] at e
            obtain ⟨w1, w2⟩ := andB w
            obtain ⟨w2, w3⟩ := andB w2
            have w2 := zIn_of w2
            have w3 := zIn_of w3
            have r2 := crun_of n m (i + 1) L _ _ o H' e (by show 4 ≤ H.1 + 1; omega) hm
            have q := and2 okc
            have d := okD_of q.1
            have lk := ARt_ok (uO m) b (List.contains_iff_mem.mp q.2)
            rw [← okr.2] at lk
            refine r2.step ⟨Nat.le_succ _, Nat.le_add_right _ _⟩ fun hb Q mc ms h1 h2 => ⟨hb, ag4.refl _, fun k => ?_⟩
            have h1 : H.1 + 1 - H.1 ≤ mc := h1
            have h2 : H.2.1 + v.2.toNat - H.2.1 ≤ ms := h2
            rw [hpc, show v = (0, v.2) from Prod.ext (beqN w1) rfl]
            rw [cMH_new h4] at k
            replace k : MW (uK m) Q (mc - (H.1 + 1 - H.1)) (ms - (H.2.1 + v.2.toNat - H.2.1)) (pcA (uP m) (i + 1)) L ((2, (H.1 : Int)) :: S0) (hnew (cMH hb H) (6, v.2.toNat, fun _ => -1)) := k
            rw [show H.1 + 1 - H.1 = 1 by omega, show H.2.1 + v.2.toNat - H.2.1 = v.2.toNat by omega] at k
            exact m_anewI _ d.1 d.2 lk w2 (by omega) (by omega) (by omega) k
        · cases e
    · -- 113
      next h =>
      replace h : op = 113 := h; subst h
      cases u : Nat.blt m 821 with
      | true => rw [u] at e; cases e
      | false =>
        rw [u, cond_false] at e
        have okc := (ctor u).1
        split at e
        · next w0 v S0 =>
          cases w : (Nat.beq w0.1 0 && (Nat.beq v.1 0 && (zIn v.2 && (zIn (1000000 - v.2) && (zIn w0.2 && zIn (1000000 - w0.2)))))) with
          | false => rw [w] at e; cases e
          | true =>
            rw [w, cond_true] at e
            obtain ⟨w1, w2⟩ := andB w
            obtain ⟨w2, w3⟩ := andB w2
            obtain ⟨w3, w4⟩ := andB w3
            obtain ⟨w4, w5⟩ := andB w4
            obtain ⟨w5, w6⟩ := andB w5
            have w3 := zIn_of w3
            have w4 := zIn_of w4
            have w5 := zIn_of w5
            have w6 := zIn_of w6
            have r2 := crun_of n m (i + 1) L _ _ o H' e (by show 4 ≤ H.1 + (1 + v.2.toNat); omega) hm
            have q := and2 okc
            have d := okD_of q.1
            obtain ⟨lt, lk⟩ := MAt_ok (uO m) (b, a) (List.contains_iff_mem.mp q.2)
            replace lt : a < 2 := lt
            replace lk : Cond.classLink (mcn (uO m)) b (tyA a) ∈ mTB := lk
            rw [← okr.2] at lk
            refine r2.step ⟨Nat.le_add_right _ _, Nat.le_add_right _ _⟩ fun hb Q mc ms h1 h2 => ⟨(hb.1, fun b => if b < 4 then hb.2 b else if b < H.1 then hb.2 b else (a, w0.2.toNat, fun _ => 0)), fun x hx => if_pos hx, fun k => ?_⟩
            have h1 : H.1 + (1 + v.2.toNat) - H.1 ≤ mc := h1
            have h2 : H.2.1 + (v.2.toNat + v.2.toNat * w0.2.toNat) - H.2.1 ≤ ms := h2
            replace k : MW (uK m) Q (mc - (H.1 + (1 + v.2.toNat) - H.1)) (ms - (H.2.1 + (v.2.toNat + v.2.toNat * w0.2.toNat) - H.2.1)) (pcA (uP m) (i + 1)) L ((2, (H.1 : Int)) :: S0) (cMH (hb.1, fun b => if b < 4 then hb.2 b else if b < H.1 then hb.2 b else (a, w0.2.toNat, fun _ => 0)) (H.1 + (1 + v.2.toNat), H.2.1 + (v.2.toNat + v.2.toNat * w0.2.toNat), List.replicate v.2.toNat (a, w0.2.toNat, 0, []) ++ (6 + a, v.2.toNat, H.1 + 1 + 3, []) :: H.2.2)) := k
            rw [← cMH_mna h4, show H.1 + (1 + v.2.toNat) - H.1 = 1 + v.2.toNat by omega, Nat.add_sub_cancel_left] at k
            have h2' : v.2.toNat + v.2.toNat * w0.2.toNat ≤ ms := by
              rw [Nat.add_sub_cancel_left] at h2
              exact h2
            rw [hpc, show v = (0, v.2) from Prod.ext (beqN w2) rfl, show w0 = (0, w0.2) from Prod.ext (beqN w1) rfl]
            match a, lt, lk, k, d with
            | 0, _, lk, k, d => exact m_mna (ty := .int) _ d.1 d.2 (Or.inl ⟨rfl, rfl, rfl⟩) lk la_int w3 (by omega) w5 (by omega) (by omega) h2' k
            | 1, _, lk, k, d => exact m_mna (ty := .long) _ d.1 d.2 (Or.inr ⟨rfl, rfl, rfl⟩) lk la_long w3 (by omega) w5 (by omega) (by omega) h2' k
        · cases e
    · -- 115
      next h =>
      replace h : op = 115 := h; subst h
      cases u : Nat.blt m 821 with
      | true => rw [u] at e; cases e
      | false =>
        rw [u, cond_false] at e
        have okc := (ctor u).1
        split at e
        · next r S0 =>
          cases w : (Nat.beq r.1 2 && (zIn r.2 && cwd S0)) with
          | false => rw [w] at e; cases e
          | true =>
            rw [w, cond_true] at e
            obtain ⟨w1, w2⟩ := andB w
            obtain ⟨w2, w3⟩ := andB w2
            have r2 := crun_of n m (i + 1) L _ _ o H' e h4 hm
            have q := and2 okc
            have d := okD_of q.1
            obtain ⟨q1, q2⟩ := andB q.2
            obtain ⟨q2, q3⟩ := andB q2
            have lk := OIt_ok (uO m) b (List.contains_iff_mem.mp q1)
            rw [← okr.2] at lk
            refine r2.step0 ⟨rfl, rfl⟩ fun hb Q mc ms k => ?_
            rw [hpc, show r = (2, r.2) from Prod.ext (beqN w1) rfl]
            have d2 : pc + 3 = pcA (uP m) (i + 1) := d.2
            rw [← d2] at k
            exact m_objInit d.1 lk (zIn_of w2) ⟨bleN q2, bleN q3⟩ (bleN w3) k
        · cases e
    · -- 116
      next h =>
      replace h : op = 116 := h; subst h
      cases u : Nat.blt m 821 with
      | true => rw [u] at e; cases e
      | false =>
        rw [u, cond_false] at e
        have okc := (ctor u).1
        split at e
        · next v j r S0 =>
          split at e
          · next cc cv hc hcv =>
            cases w : (Nat.beq v.1 2 && (zIn v.2 && ((Nat.beq cc.1 8 && Nat.beq cv.1 17) || (Nat.beq cc.1 6 && Nat.beq cv.1 0)))) with
            | false => rw [w] at e; cases e
            | true =>
              rw [w, cond_true] at e
              obtain ⟨w1, w2⟩ := andB w
              obtain ⟨w2, w3⟩ := andB w2
              have r2 := crun_of n m (i + 1) L _ _ o H' e h4 hm
              have d := okD_of okc
              refine r2.step0 ⟨rfl, rfl⟩ fun hb Q mc ms k => ?_
              obtain ⟨b1, b2, b3, b4, b5⟩ := cIx_of (hb := hb) hc
              have hl := cAt_lt hcv
              rw [hpc, show v = (2, v.2) from Prod.ext (beqN w1) rfl, show j = (0, j.2) from Prod.ext b2 rfl, show r = (2, r.2) from Prod.ext b1 rfl]
              rw [cMH_set b5] at k
              have kr : ((cMH hb H).2 r.2.toNat).1 = cc.1 := by rw [cMH_at b5]; rfl
              have kv : ((cMH hb H).2 v.2.toNat).1 = cv.1 := by rw [cMH_at hcv]; rfl
              rw [Bool.or_eq_true] at w3
              rcases w3 with w3 | w3
              · obtain ⟨x1, x2⟩ := andB w3
                exact m_aastB _ d.1 d.2 b3.1 b4 b3.2.1 (kr.trans (beqN x1)) (zIn_of w2) hl.1 hl.2 (kv.trans (beqN x2)) b3.2.2.1 b3.2.2.2 k
              · obtain ⟨x1, x2⟩ := andB w3
                exact m_aast _ d.1 d.2 (Or.inl ⟨rfl, rfl⟩) b3.1 b4 b3.2.1 (kr.trans (beqN x1)) (zIn_of w2) hl.1 hl.2 (kv.trans (beqN x2)) b3.2.2.1 b3.2.2.2 k
          · cases e
        · cases e
    · -- 120
      next h =>
      replace h : op = 120 := h; subst h
      cases u : Nat.blt m 821 with
      | true => rw [u] at e; cases e
      | false =>
        rw [u, cond_false] at e
        obtain ⟨okc, k3⟩ := ctor u
        split at e
        · next v r S0 =>
          cases w : (Nat.beq v.1 (tgo c) && (Nat.beq r.1 2 && (zIn r.2 && (!(Nat.beq c 4) || (zIn v.2 && zIn (1 - v.2)))))) with
          | false =>
            replace e : (bif (Nat.beq v.1 (tgo c) && (Nat.beq r.1 2 && (zIn r.2 && (!(Nat.beq c 4) || (zIn v.2 && zIn (1 - v.2)))))) then _ else none) = some (o, H') := e
            rw [w] at e; cases e
          | true =>
            replace e : (bif (Nat.beq v.1 (tgo c) && (Nat.beq r.1 2 && (zIn r.2 && (!(Nat.beq c 4) || (zIn v.2 && zIn (1 - v.2)))))) then (match cAt H r.2.toNat with
              | some cc => bif Nat.beq cc.1 (16 + a) then crun n m (i + 1) L S0 (cSt H r.2.toNat b v.2) else none
              | none => none) else none) = some (o, H') := e
            rw [w, cond_true] at e
            obtain ⟨w1, w2⟩ := andB w
            obtain ⟨w2, w3⟩ := andB w2
            obtain ⟨w3, w4⟩ := andB w3
            split at e
            · next cc hc =>
              cases y : Nat.beq cc.1 (16 + a) with
              | false => rw [y] at e; cases e
              | true =>
                rw [y, cond_true] at e
                have r2 := crun_of n m (i + 1) L _ _ o H' e h4 hm
                refine r2.step0 ⟨rfl, rfl⟩ fun hb Q mc ms k => ?_
                have q := and2 okc
                have d := okD_of q.1
                obtain ⟨q1, q2⟩ := andB q.2
                obtain ⟨q2, q3⟩ := andB q2
                have f := FT_ok (uO m) (z.toNat, a, b, c) (List.contains_iff_mem.mp q2)
                have hc5 : c < 5 := of_decide_eq_true q1
                have tg : mft a b = tgo c := f.tag hc5
                obtain ⟨rr, t, f1, f2, f3, f4, f5⟩ := f
                have f1 : mcl[a]? = some rr := f1
                have f2 : b < rr.2.2 := f2
                have f3 : parseFieldDescriptor (rr.2.1 b).2.2.1 = some t := f3
                have f4 : mfcT t = c := f4
                rw [← okr.2] at f5
                have q3 : (match mcl[a]? with
                  | some r => (r.2.1 b).2.2.2 && decide ((uK m).2.1 = (r.2.1 b).1)
                  | none => false) = true := q3
                rw [f1] at q3
                obtain ⟨q4, q5⟩ := andB q3
                have q5 := of_decide_eq_true q5
                obtain ⟨g1, g2, ty0, g3⟩ := mcl_ok rr (List.mem_of_getElem? f1)
                have et : ty0 b = t := by
                  have := g3 b f2
                  rw [f3] at this
                  exact (Option.some.inj this).symm
                have hnf : (∀ ad, narrow t (mval ad (tgo c, v.2)) = mval ad (tgo c, v.2)) ∧ (∀ ad, fits t (mval ad (tgo c, v.2)) = true) := by
                  have e6 : c = 4 → 0 ≤ v.2 ∧ v.2 ≤ 1 := fun p => by
                    rw [p] at w4
                    obtain ⟨u1, u2⟩ := andB (show (zIn v.2 && zIn (1 - v.2)) = true from w4)
                    have u1 := zIn_of u1
                    have u2 := zIn_of u2
                    omega
                  clear k e r2 w w1 w4 okc okr hmi hi ctor g3 et f3 tg q q1 q2 f5 d
                  subst f4
                  cases t with
                  | int => exact ⟨fun ad => rfl, fun ad => rfl⟩
                  | long => exact ⟨fun ad => rfl, fun ad => rfl⟩
                  | double => exact ⟨fun ad => rfl, fun ad => rfl⟩
                  | boolean => exact ⟨m_nz (e6 rfl), m_fz (e6 rfl)⟩
                  | object C => exact ⟨m_nrO C, m_frO C⟩
                  | array t => exact ⟨m_nrA t, m_frA t⟩
                  | _ => exact absurd hc5 (by decide)
                rw [cMH_set hc] at k
                rw [hpc, show v = (tgo c, v.2) from Prod.ext (beqN w1) rfl, show r = (2, r.2) from Prod.ext (beqN w2) rfl]
                exact m_putfield _ d.1 d.2 (r := r.2) f1 g1 g3 g2 f2 (Or.inr ⟨q4, k3, q5⟩) f5 tg (by rw [et]; exact hnf.1) (by rw [et]; exact hnf.2) (zIn_of w3) (cAt_lt hc).2 (by rw [cMH_at hc]; exact beqN y) k
            · cases e
        · cases e
    · -- the rest
      next h0 h1 h2 h3 h4' h5 h6 h7 h8 h9 h10 =>
      cases v : (Nat.beq op 114 || Nat.beq op 117) with
      | false =>
        replace e : (bif (Nat.beq op 114 || Nat.beq op 117) then _ else (match cs1 i (pc, op, z, a, b, c) L S H with
          | some (i', L', S', H') => crun n m i' L' S' H'
          | none => none)) = some (o, H') := e
        rw [v, cond_false] at e
        split at e
        · next i' L' S' H1 e1 =>
          obtain ⟨n1, n2⟩ := cs1_n e1
          have r2 := crun_of n m i' L' S' H1 o H' e (by omega) hm
          exact r2.step0 ⟨n1, n2⟩ fun hb Q mc ms k => so1 okp hi (cs1_of (u_ft okr.1) e1 k)
        · cases e
      | true =>
        replace e : (bif (Nat.beq op 114 || Nat.beq op 117) then (bif Nat.blt m 821 then none else (match cspl (npI a) S with
          | some (as, r :: rest) => bif fitB (uK m) (kI a) && (Nat.beq r.1 2 && (zIn r.2 && (cwd rest && (Nat.ble (mwid (r :: as)) (kI a).2.2.2.1 && Nat.beq (pcA (pgI a) 0) 0)))) then (match cAt H r.2.toNat with
            | some c => bif Nat.beq c.1 (16 + a) then (match crun n (821 + a) 0 (margs 0 (r :: as)) [] H with
              | some (o, H1) => bif Nat.beq o.1 0 then crun n m (i + 1) L rest H1 else none
              | none => none) else none
            | none => none) else none
          | _ => none)) else _) = some (o, H') := e
        rw [v, cond_true] at e
        cases u : Nat.blt m 821 with
        | true => rw [u] at e; cases e
        | false =>
          rw [u, cond_false] at e
          have okc := (ctor u).1
          split at e
          · next as r rest hsp =>
            cases w : (fitB (uK m) (kI a) && (Nat.beq r.1 2 && (zIn r.2 && (cwd rest && (Nat.ble (mwid (r :: as)) (kI a).2.2.2.1 && Nat.beq (pcA (pgI a) 0) 0))))) with
            | false => rw [w] at e; cases e
            | true =>
              rw [w, cond_true] at e
              obtain ⟨w1, w2⟩ := andB w
              obtain ⟨w2, w3⟩ := andB w2
              obtain ⟨w3, w4⟩ := andB w3
              obtain ⟨w4, w5⟩ := andB w4
              obtain ⟨w5, w6⟩ := andB w5
              have w3 := zIn_of w3
              split at e
              · next cc hc =>
                cases y : Nat.beq cc.1 (16 + a) with
                | false => rw [y] at e; cases e
                | true =>
                  rw [y, cond_true] at e
                  split at e
                  · next o1 H1 e1 =>
                    cases v0 : Nat.beq o1.1 0 with
                    | false => rw [v0] at e; cases e
                    | true =>
                      rw [v0, cond_true] at e
                      -- the site
                      have site : a < 21 ∧ decode (uK m).2.2.1 pc = .ok (.invokespecial b, 3) ∧ pc + 3 = pcA (uP m) (i + 1) ∧ (Cond.methodLink (uK m).2.1 b (yI a) ∈ mTB ∨ ∃ host, ((uK m).2.1, b, yI a, host) ∈ mNL) := by
                        rw [Bool.or_eq_true] at v
                        rcases v with v | v
                        · have v := beqN v
                          subst v
                          have q := and2 okc
                          have d := okD_of q.1
                          obtain ⟨q1, q2⟩ := andB q.2
                          have lk := CLt_ok (uO m) (b, a) (List.contains_iff_mem.mp q1)
                          rw [← okr.2] at lk
                          exact ⟨bltN q2, d.1, d.2, Or.inl lk⟩
                        · have v := beqN v
                          subst v
                          have q := and2 okc
                          have d := okD_of q.1
                          obtain ⟨q1, q2⟩ := andB q.2
                          obtain ⟨host, lk⟩ := CNt_ok (uO m) (b, a) (List.contains_iff_mem.mp q1)
                          rw [← okr.2] at lk
                          exact ⟨bltN q2, d.1, d.2, Or.inr ⟨host, lk⟩⟩
                      obtain ⟨a21, hd, hnx, lk⟩ := site
                      obtain ⟨⟨c1, c2⟩, c3⟩ := crun_of n (821 + a) 0 _ _ H o1 H1 e1 h4 (by omega)
                      obtain ⟨hS, hn⟩ := cspl_of hsp
                      have hr : r = (2, r.2) := Prod.ext (beqN w2) rfl
                      have z1 : Nat.blt (821 + a) 821 = false := by
                        cases zz : Nat.blt (821 + a) 821 with
                        | false => rfl
                        | true => have := bltN zz; omega
                      have uk : uK (821 + a) = kI a := by
                        unfold uK
                        rw [z1, Nat.add_sub_cancel_left]
                        rfl
                      have up : uP (821 + a) = pgI a := by
                        unfold uP
                        rw [z1, Nat.add_sub_cancel_left]
                        rfl
                      obtain ⟨f1, f2, f3, f4, f5, f6, f7, f8, f9⟩ := IFk_ok a a21
                      have call : ∀ (hb : MH), MCal (kI a) (yI a) (H1.1 - H.1) (H1.2.1 - H.2.1) ((2, r.2) :: as) (cMH hb H) (fun o' h' => o' = o1 ∧ ∃ hb', ag4 hb hb' ∧ h' = cMH hb' H1) := fun hb => by
                        refine MCal.ofMW (Or.inr (Or.inr ⟨f8, f6⟩)) ⟨f2, f3⟩ ?_ ?_ (fun e => by rw [f8] at e; cases e)
                        · rw [← hr]; exact bleN w5
                        · have k := c3 hb (fun o' h' => o' = o1 ∧ ∃ hb', ag4 hb hb' ∧ h' = cMH hb' H1) _ _ (Nat.le_refl _) (Nat.le_refl _) fun hb' a' => ⟨rfl, hb', a', rfl⟩
                          rw [uk, up, beqN w6, hr] at k
                          exact k
                      have hkd : ∀ hb, ((cMH hb H).2 r.2.toNat).1 = 16 + a := fun hb => by
                        rw [cMH_at hc]
                        exact beqN y
                      have r2 := crun_of n m (i + 1) L rest H1 o H' e (by omega) hm
                      refine ⟨⟨Nat.le_trans c1 r2.1.1, Nat.le_trans c2 r2.1.2⟩, fun hb Q mc ms h1 h2 hq' => ?_⟩
                      have g1 := r2.1.1
                      have g2 := r2.1.2
                      obtain ⟨⟨C, T, N⟩, hcl⟩ := mcl_at a21
                      have fin : ∀ (o' : MO) (h' : MH), (o' = o1 ∧ ∃ hb', ag4 hb hb' ∧ h' = cMH hb' H1) → (o'.1 = 0 → MW (uK m) Q (mc - (H1.1 - H.1)) (ms - (H1.2.1 - H.2.1)) (pc + 3) L rest h') ∧ (o'.1 = 1 → MW (uK m) Q (mc - (H1.1 - H.1)) (ms - (H1.2.1 - H.2.1)) (pc + 3) L (o'.2 :: rest) h') := fun o' h' p => by
                        obtain ⟨p1, hb', p2, p3⟩ := p
                        subst p1 p3
                        rw [hnx]
                        refine ⟨fun _ => r2.2 hb' Q _ _ (by omega) (by omega) fun hb2 a2 => hq' hb2 (p2.trans a2), fun z1 => ?_⟩
                        rw [beqN v0] at z1
                        cases z1
                      rw [hpc, hS, hr]
                      rcases lk with lk | ⟨host, lk⟩
                      · exact m_invokespecial hd (fitB_of w1).2 f1 hcl w3 (cAt_lt hc).2 (hkd hb) ⟨lk, f5⟩ f6 ⟨trivial, f4.1, f4.2.1, by rw [hn]; exact f4.2.2⟩ f7 (fitB_of w1).1 (bleN w4) rfl (show H1.1 - H.1 ≤ mc by omega) (show H1.2.1 - H.2.1 ≤ ms by omega) (call hb) fin
                      · exact m_invokespecialN hd (fitB_of w1).2 f1 hcl w3 (cAt_lt hc).2 (hkd hb) ⟨lk, f5⟩ f6 ⟨trivial, f4.1, f4.2.1, by rw [hn]; exact f4.2.2⟩ f7 (fitB_of w1).1 (bleN w4) rfl (show H1.1 - H.1 ≤ mc by omega) (show H1.2.1 - H.2.1 ≤ ms by omega) (call hb) fin
                  · cases e
              · cases e
          · cases e
