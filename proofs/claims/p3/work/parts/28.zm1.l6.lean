/-! X1 by hand: a class gets a line, both sides -/
set_option maxRecDepth 20000 in
set_option maxHeartbeats 8000000 in
theorem h_X8_addLine {h : MH} {c w m : Int} (hl : ∀ j : Int, 0 ≤ j → j < 8 → 0 ≤ ga h 791 j ∧ ga h 791 j ≤ 4) (g : StrZ zT h) : MCal KX8_addLine yX8_addLine 0 0 [(2, ((618 : Nat) : Int)), (0, c), (0, w), (0, m)] h (mRI fun v h' => (0 ≤ v ∧ v ≤ 1) ∧ A8 h c w m h') := by
  refine MCal.ofMW (Or.inl rfl) ⟨cp_X8, rfl⟩ (Nat.le_of_ble_eq_true rfl) ?_
  generalize eQ : (mRI fun v h' => (0 ≤ v ∧ v ≤ 1) ∧ A8 h c w m h' : MO → MH → Prop) = Q
  change MW KX8_addLine Q 0 0 (pcA pgX8_addLine 0) [(0, (2, ((618 : Nat) : Int))), (1, (0, c)), (2, (0, w)), (3, (0, m))] [] h
  refine hd_locI (i := 1) rfl (fun rc => ?_)
  refine hd_locI (i := 2) rfl (fun rw => ?_)
  refine hd_locI (i := 3) rfl (fun rm => ?_)
  refine hd_iload pkX8_addLine rfl rfl ?_
  refine hd_if_lt pkX8_addLine rfl (fun c1 => ?_) (fun c1 => ?_)
  · skip
    refine hd_ipush (z := 0) pkX8_addLine rfl ?_
    refine hd_zret pkX8_addLine rfl (by omega) ?_
    subst eQ
    exact ⟨rfl, rfl, ⟨by decide, by decide⟩, g, Only.refl _ _, Or.inr ⟨fun o => by obtain ⟨o1, o2, o3, o4, o5, o6, o7, o8⟩ := o; omega, rfl⟩⟩
  · skip
    refine hd_iload pkX8_addLine rfl rfl ?_
    refine hd_ipush (z := 8) pkX8_addLine rfl ?_
    refine hd_ic_ge pkX8_addLine rfl (fun c2 => ?_) (fun c2 => ?_)
    · skip
      refine hd_ipush (z := 0) pkX8_addLine rfl ?_
      refine hd_zret pkX8_addLine rfl (by omega) ?_
      subst eQ
      exact ⟨rfl, rfl, ⟨by decide, by decide⟩, g, Only.refl _ _, Or.inr ⟨fun o => by obtain ⟨o1, o2, o3, o4, o5, o6, o7, o8⟩ := o; omega, rfl⟩⟩
    · skip
      refine hd_iload pkX8_addLine rfl rfl ?_
      refine hd_ipush (z := 1) pkX8_addLine rfl ?_
      refine hd_ic_lt pkX8_addLine rfl (fun c3 => ?_) (fun c3 => ?_)
      · skip
        refine hd_ipush (z := 0) pkX8_addLine rfl ?_
        refine hd_zret pkX8_addLine rfl (by omega) ?_
        subst eQ
        exact ⟨rfl, rfl, ⟨by decide, by decide⟩, g, Only.refl _ _, Or.inr ⟨fun o => by obtain ⟨o1, o2, o3, o4, o5, o6, o7, o8⟩ := o; omega, rfl⟩⟩
      · skip
        refine hd_iload pkX8_addLine rfl rfl ?_
        refine hd_ipush (z := 2000000) pkX8_addLine rfl ?_
        refine hd_ic_gt pkX8_addLine rfl (fun c4 => ?_) (fun c4 => ?_)
        · skip
          refine hd_ipush (z := 0) pkX8_addLine rfl ?_
          refine hd_zret pkX8_addLine rfl (by omega) ?_
          subst eQ
          exact ⟨rfl, rfl, ⟨by decide, by decide⟩, g, Only.refl _ _, Or.inr ⟨fun o => by obtain ⟨o1, o2, o3, o4, o5, o6, o7, o8⟩ := o; omega, rfl⟩⟩
        · skip
          refine hd_iload pkX8_addLine rfl rfl ?_
          refine hd_ipush (z := 1) pkX8_addLine rfl ?_
          refine hd_ic_lt pkX8_addLine rfl (fun c5 => ?_) (fun c5 => ?_)
          · skip
            refine hd_ipush (z := 0) pkX8_addLine rfl ?_
            refine hd_zret pkX8_addLine rfl (by omega) ?_
            subst eQ
            exact ⟨rfl, rfl, ⟨by decide, by decide⟩, g, Only.refl _ _, Or.inr ⟨fun o => by obtain ⟨o1, o2, o3, o4, o5, o6, o7, o8⟩ := o; omega, rfl⟩⟩
          · skip
            refine hd_iload pkX8_addLine rfl rfl ?_
            refine hd_ipush (z := 1000000) pkX8_addLine rfl ?_
            refine hd_ic_gt pkX8_addLine rfl (fun c6 => ?_) (fun c6 => ?_)
            · skip
              refine hd_ipush (z := 0) pkX8_addLine rfl ?_
              refine hd_zret pkX8_addLine rfl (by omega) ?_
              subst eQ
              exact ⟨rfl, rfl, ⟨by decide, by decide⟩, g, Only.refl _ _, Or.inr ⟨fun o => by obtain ⟨o1, o2, o3, o4, o5, o6, o7, o8⟩ := o; omega, rfl⟩⟩
            · skip
              obtain ⟨k9, ek⟩ : ∃ x : Int, ga h 791 c = x := ⟨_, rfl⟩
              have kb := hl c (by omega) (by omega)
              rw [ek] at kb
              refine hd_aload pkX8_addLine rfl rfl (Int.natCast_nonneg _) ?_
              refine hd_getR (n := 791) pkX8_addLine rfl (st_cell g (c := 618) (k := 24) (n := 0) (by decide +kernel)).1 (st_cell g (c := 618) (k := 24) (n := 0) (by decide +kernel)).2.1 (st_ref g (by decide +kernel)) ?_
              refine hd_iload pkX8_addLine rfl rfl ?_
              refine hd_iald (n := 8) pkX8_addLine rfl (st_cell g (c := 791) (k := 0) (n := 8) (by decide +kernel)) (by omega) (by omega) (fun v7 ev7 rv7 => ?_)
              have qv7 : k9 = v7 := by rw [ev7]; exact ek.symm
              subst qv7
              refine hd_ipush (z := 4) pkX8_addLine rfl ?_
              refine hd_ic_lt pkX8_addLine rfl (fun c8 => ?_) (fun c8 => ?_)
              · skip
                refine hd_aload pkX8_addLine rfl rfl (Int.natCast_nonneg _) ?_
                refine hd_getR (n := 791) pkX8_addLine rfl (st_cell g (c := 618) (k := 24) (n := 0) (by decide +kernel)).1 (st_cell g (c := 618) (k := 24) (n := 0) (by decide +kernel)).2.1 (st_ref g (by decide +kernel)) ?_
                refine hd_iload pkX8_addLine rfl rfl ?_
                refine hd_iald (n := 8) pkX8_addLine rfl (st_cell g (c := 791) (k := 0) (n := 8) (by decide +kernel)) (by omega) (by omega) (fun v9 ev9 rv9 => ?_)
                have qv9 : k9 = v9 := by rw [ev9]; exact ek.symm
                subst qv9
                refine hd_istore pkX8_addLine rfl rfl ?_
                change MW _ _ _ _ _ [(4, (0, k9)), (0, (2, ((618 : Nat) : Int))), (1, (0, c)), (2, (0, w)), (3, (0, m))] _ _
                refine hd_iload pkX8_addLine rfl rfl ?_
                refine hd_if_le pkX8_addLine rfl (fun c10 => ?_) (fun c10 => ?_)
                · skip
                  refine hd_aload pkX8_addLine rfl rfl (Int.natCast_nonneg _) ?_
                  refine hd_getR (n := 773) pkX8_addLine rfl (st_cell g (c := 618) (k := 24) (n := 0) (by decide +kernel)).1 (st_cell g (c := 618) (k := 24) (n := 0) (by decide +kernel)).2.1 (st_ref g (by decide +kernel)) ?_
                  refine hd_iload pkX8_addLine rfl rfl ?_
                  refine hd_aldR (n := 8) pkX8_addLine rfl (st_cell g (c := 773) (k := 6) (n := 8) (by decide +kernel)) (Or.inl rfl) (by omega) (by omega) (fun v11 ev11 => ?_)
                  rw [st_773 g ⟨by omega, by omega⟩] at ev11
                  subst v11
                  refine hd_iload pkX8_addLine rfl rfl ?_
                  refine hd_iload pkX8_addLine rfl rfl ?_
                  refine hd_iast (n := 4) pkX8_addLine rfl (r774 g ⟨by omega, by omega⟩) (by first | decide | (unfold rC; omega)) (by omega) (by omega) (fun hh12 ehh12 => ?_)
                  have ghh12 : StrZ zT hh12 := by rw [ehh12]; exact st_arr g (r7_k ⟨by omega, by omega⟩).1
                  have u1 : ∀ i : Int, 0 ≤ i → ga hh12 (rC 774 c) i = if i = k9 then w else ga h (rC 774 c) i := fun i a => by rw [ehh12]; exact ga_sa _ _ _ (by omega) a
                  have n1 : ∀ d : Nat, d ≠ rC 774 c → ∀ i, ga hh12 d i = ga h d i := fun d n i => by rw [ehh12]; exact ga_ne _ _ _ _ n i
                  have o1 : Only lCs h hh12 := by rw [ehh12]; exact (Only.refl _ _).set (mem_lCs.mpr (by have := rC_b (b := 774) (i := c) ⟨by omega, by omega⟩; have := rC_b (b := 783) (i := c) ⟨by omega, by omega⟩; omega))
                  obtain ⟨hA, ehA⟩ : ∃ x : MH, x = hh12 := ⟨_, rfl⟩
                  rw [← ehA] at u1 n1 o1
                  have b7 := rC_b (b := 774) (i := c) ⟨by omega, by omega⟩
                  have b8 := rC_b (b := 783) (i := c) ⟨by omega, by omega⟩
                  refine hd_aload pkX8_addLine rfl rfl (Int.natCast_nonneg _) ?_
                  refine hd_getR (n := 782) pkX8_addLine rfl (st_cell ghh12 (c := 618) (k := 24) (n := 0) (by decide +kernel)).1 (st_cell ghh12 (c := 618) (k := 24) (n := 0) (by decide +kernel)).2.1 (st_ref ghh12 (by decide +kernel)) ?_
                  refine hd_iload pkX8_addLine rfl rfl ?_
                  refine hd_aldR (n := 8) pkX8_addLine rfl (st_cell ghh12 (c := 782) (k := 6) (n := 8) (by decide +kernel)) (Or.inl rfl) (by omega) (by omega) (fun v13 ev13 => ?_)
                  rw [st_782 ghh12 ⟨by omega, by omega⟩] at ev13
                  subst v13
                  refine hd_iload pkX8_addLine rfl rfl ?_
                  refine hd_iload pkX8_addLine rfl rfl ?_
                  refine hd_iast (n := 4) pkX8_addLine rfl (r783 ghh12 ⟨by omega, by omega⟩) (by first | decide | (unfold rC; omega)) (by omega) (by omega) (fun hh14 ehh14 => ?_)
                  have ghh14 : StrZ zT hh14 := by rw [ehh14]; exact st_arr ghh12 (r7_k ⟨by omega, by omega⟩).2
                  rw [← ehA] at ehh14
                  have u2 : ∀ i : Int, 0 ≤ i → ga hh14 (rC 783 c) i = if i = k9 then m else ga h (rC 783 c) i := fun i a => by rw [ehh14, ga_sa _ _ _ (by omega) a, n1 _ (by omega)]
                  have n2 : ∀ d : Nat, d ≠ rC 774 c → d ≠ rC 783 c → ∀ i, ga hh14 d i = ga h d i := fun d n n9 i => by rw [ehh14, ga_ne _ _ _ _ n9]; exact n1 d n i
                  have v2 : ∀ i : Int, 0 ≤ i → ga hh14 (rC 774 c) i = if i = k9 then w else ga h (rC 774 c) i := fun i a => by rw [ehh14, ga_ne _ _ _ _ (by omega)]; exact u1 i a
                  have o2 : Only lCs h hh14 := by rw [ehh14]; exact o1.set (mem_lCs.mpr (by have := rC_b (b := 774) (i := c) ⟨by omega, by omega⟩; have := rC_b (b := 783) (i := c) ⟨by omega, by omega⟩; omega))
                  obtain ⟨hB, ehB⟩ : ∃ x : MH, x = hh14 := ⟨_, rfl⟩
                  rw [← ehB] at u2 n2 v2 o2
                  refine hd_aload pkX8_addLine rfl rfl (Int.natCast_nonneg _) ?_
                  refine hd_getR (n := 791) pkX8_addLine rfl (st_cell ghh14 (c := 618) (k := 24) (n := 0) (by decide +kernel)).1 (st_cell ghh14 (c := 618) (k := 24) (n := 0) (by decide +kernel)).2.1 (st_ref ghh14 (by decide +kernel)) ?_
                  refine hd_iload pkX8_addLine rfl rfl ?_
                  refine hd_dup2 pkX8_addLine rfl rfl rfl ?_
                  refine hd_iald (n := 8) pkX8_addLine rfl (st_cell ghh14 (c := 791) (k := 0) (n := 8) (by decide +kernel)) (by omega) (by omega) (fun v15 ev15 rv15 => ?_)
                  have qv15 : k9 = v15 := by rw [ev15, ← ehB, n2 _ (by omega) (by omega)]; exact ek.symm
                  subst qv15
                  refine hd_ipush (z := 1) pkX8_addLine rfl ?_
                  refine hd_iadd pkX8_addLine rfl (by omega) ?_
                  refine hd_iast (n := 8) pkX8_addLine rfl (st_cell ghh14 (c := 791) (k := 0) (n := 8) (by decide +kernel)) (by first | decide | (unfold rC; omega)) (by omega) (by omega) (fun hh16 ehh16 => ?_)
                  have ghh16 : StrZ zT hh16 := by rw [ehh16]; exact st_arr ghh14 (by decide +kernel)
                  rw [← ehB] at ehh16
                  have u3 : ∀ i : Int, 0 ≤ i → ga hh16 791 i = if i = c then k9 + 1 else ga h 791 i := fun i a => by rw [ehh16, ga_sa _ _ _ (by omega) a, n2 _ (by omega) (by omega)]
                  have n3 : ∀ d : Nat, d ≠ 791 → ∀ i, ga hh16 d i = ga hB d i := fun d n i => by rw [ehh16]; exact ga_ne _ _ _ _ n i
                  have o3 : Only lCs h hh16 := by rw [ehh16]; exact o2.set (mem_lCs.mpr (by omega))
                  refine hd_ipush (z := 1) pkX8_addLine rfl ?_
                  refine hd_zret pkX8_addLine rfl (by omega) ?_
                  subst eQ
                  refine ⟨rfl, rfl, ⟨by decide, by decide⟩, ghh16, o3, Or.inl ⟨⟨by omega, by omega, by omega, by omega, by omega, by omega, by omega, fun z => ?_⟩, ?_, ?_, ?_, fun j j0 n => ?_, fun j i j0 j8 i0 n => ?_⟩⟩
                  · rw [ek] at z ⊢
                    omega
                  · rw [u3 c (by omega), if_pos rfl, ek]
                  · rw [ek, n3 _ (by omega), v2 k9 (by omega), if_pos rfl]
                  · rw [ek, n3 _ (by omega), u2 k9 (by omega), if_pos rfl]
                  · rw [u3 j j0, if_neg n]
                  · rw [ek] at n
                    have b1 := rC_b (b := 774) (i := j) ⟨j0, j8⟩
                    have b2 := rC_b (b := 783) (i := j) ⟨j0, j8⟩
                    rw [n3 _ (by omega), n3 _ (by omega)]
                    by_cases q : j = c
                    · subst q
                      rw [v2 i i0, u2 i i0, if_neg (by omega), if_neg (by omega)]
                      exact ⟨rfl, rfl⟩
                    · rw [n2 _ (rC_ne j0 (by omega) q) (by omega), n2 _ (by omega) (rC_ne j0 (by omega) q)]
                      exact ⟨rfl, rfl⟩
                · skip
                  refine hd_iload pkX8_addLine rfl rfl ?_
                  refine hd_aload pkX8_addLine rfl rfl (Int.natCast_nonneg _) ?_
                  refine hd_getR (n := 773) pkX8_addLine rfl (st_cell g (c := 618) (k := 24) (n := 0) (by decide +kernel)).1 (st_cell g (c := 618) (k := 24) (n := 0) (by decide +kernel)).2.1 (st_ref g (by decide +kernel)) ?_
                  refine hd_iload pkX8_addLine rfl rfl ?_
                  refine hd_aldR (n := 8) pkX8_addLine rfl (st_cell g (c := 773) (k := 6) (n := 8) (by decide +kernel)) (Or.inl rfl) (by omega) (by omega) (fun v17 ev17 => ?_)
                  rw [st_773 g ⟨by omega, by omega⟩] at ev17
                  subst v17
                  refine hd_iload pkX8_addLine rfl rfl ?_
                  refine hd_ipush (z := 1) pkX8_addLine rfl ?_
                  refine hd_isub pkX8_addLine rfl (by omega) ?_
                  refine hd_iald (n := 4) pkX8_addLine rfl (r774 g ⟨by omega, by omega⟩) (by omega) (by omega) (fun v18 ev18 rv18 => ?_)
                  have x40 := ev18
                  refine hd_ic_ge pkX8_addLine rfl (fun c19 => ?_) (fun c19 => ?_)
                  · skip
                    refine hd_ipush (z := 0) pkX8_addLine rfl ?_
                    refine hd_zret pkX8_addLine rfl (by omega) ?_
                    subst eQ
                    exact ⟨rfl, rfl, ⟨by decide, by decide⟩, g, Only.refl _ _, Or.inr ⟨fun o => by
                      obtain ⟨o1, o2, o3, o4, o5, o6, o7, o8⟩ := o
                      rw [ek] at o8
                      have := o8 (by omega)
                      omega, rfl⟩⟩
                  · skip
                    refine hd_iload pkX8_addLine rfl rfl ?_
                    refine hd_aload pkX8_addLine rfl rfl (Int.natCast_nonneg _) ?_
                    refine hd_getR (n := 782) pkX8_addLine rfl (st_cell g (c := 618) (k := 24) (n := 0) (by decide +kernel)).1 (st_cell g (c := 618) (k := 24) (n := 0) (by decide +kernel)).2.1 (st_ref g (by decide +kernel)) ?_
                    refine hd_iload pkX8_addLine rfl rfl ?_
                    refine hd_aldR (n := 8) pkX8_addLine rfl (st_cell g (c := 782) (k := 6) (n := 8) (by decide +kernel)) (Or.inl rfl) (by omega) (by omega) (fun v20 ev20 => ?_)
                    rw [st_782 g ⟨by omega, by omega⟩] at ev20
                    subst v20
                    refine hd_iload pkX8_addLine rfl rfl ?_
                    refine hd_ipush (z := 1) pkX8_addLine rfl ?_
                    refine hd_isub pkX8_addLine rfl (by omega) ?_
                    refine hd_iald (n := 4) pkX8_addLine rfl (r783 g ⟨by omega, by omega⟩) (by omega) (by omega) (fun v21 ev21 rv21 => ?_)
                    have x50 := ev21
                    refine hd_ic_gt pkX8_addLine rfl (fun c22 => ?_) (fun c22 => ?_)
                    · skip
                      refine hd_aload pkX8_addLine rfl rfl (Int.natCast_nonneg _) ?_
                      refine hd_getR (n := 773) pkX8_addLine rfl (st_cell g (c := 618) (k := 24) (n := 0) (by decide +kernel)).1 (st_cell g (c := 618) (k := 24) (n := 0) (by decide +kernel)).2.1 (st_ref g (by decide +kernel)) ?_
                      refine hd_iload pkX8_addLine rfl rfl ?_
                      refine hd_aldR (n := 8) pkX8_addLine rfl (st_cell g (c := 773) (k := 6) (n := 8) (by decide +kernel)) (Or.inl rfl) (by omega) (by omega) (fun v23 ev23 => ?_)
                      rw [st_773 g ⟨by omega, by omega⟩] at ev23
                      subst v23
                      refine hd_iload pkX8_addLine rfl rfl ?_
                      refine hd_iload pkX8_addLine rfl rfl ?_
                      refine hd_iast (n := 4) pkX8_addLine rfl (r774 g ⟨by omega, by omega⟩) (by first | decide | (unfold rC; omega)) (by omega) (by omega) (fun hh24 ehh24 => ?_)
                      have ghh24 : StrZ zT hh24 := by rw [ehh24]; exact st_arr g (r7_k ⟨by omega, by omega⟩).1
                      have u1 : ∀ i : Int, 0 ≤ i → ga hh24 (rC 774 c) i = if i = k9 then w else ga h (rC 774 c) i := fun i a => by rw [ehh24]; exact ga_sa _ _ _ (by omega) a
                      have n1 : ∀ d : Nat, d ≠ rC 774 c → ∀ i, ga hh24 d i = ga h d i := fun d n i => by rw [ehh24]; exact ga_ne _ _ _ _ n i
                      have o1 : Only lCs h hh24 := by rw [ehh24]; exact (Only.refl _ _).set (mem_lCs.mpr (by have := rC_b (b := 774) (i := c) ⟨by omega, by omega⟩; have := rC_b (b := 783) (i := c) ⟨by omega, by omega⟩; omega))
                      obtain ⟨hA, ehA⟩ : ∃ x : MH, x = hh24 := ⟨_, rfl⟩
                      rw [← ehA] at u1 n1 o1
                      have b7 := rC_b (b := 774) (i := c) ⟨by omega, by omega⟩
                      have b8 := rC_b (b := 783) (i := c) ⟨by omega, by omega⟩
                      refine hd_aload pkX8_addLine rfl rfl (Int.natCast_nonneg _) ?_
                      refine hd_getR (n := 782) pkX8_addLine rfl (st_cell ghh24 (c := 618) (k := 24) (n := 0) (by decide +kernel)).1 (st_cell ghh24 (c := 618) (k := 24) (n := 0) (by decide +kernel)).2.1 (st_ref ghh24 (by decide +kernel)) ?_
                      refine hd_iload pkX8_addLine rfl rfl ?_
                      refine hd_aldR (n := 8) pkX8_addLine rfl (st_cell ghh24 (c := 782) (k := 6) (n := 8) (by decide +kernel)) (Or.inl rfl) (by omega) (by omega) (fun v25 ev25 => ?_)
                      rw [st_782 ghh24 ⟨by omega, by omega⟩] at ev25
                      subst v25
                      refine hd_iload pkX8_addLine rfl rfl ?_
                      refine hd_iload pkX8_addLine rfl rfl ?_
                      refine hd_iast (n := 4) pkX8_addLine rfl (r783 ghh24 ⟨by omega, by omega⟩) (by first | decide | (unfold rC; omega)) (by omega) (by omega) (fun hh26 ehh26 => ?_)
                      have ghh26 : StrZ zT hh26 := by rw [ehh26]; exact st_arr ghh24 (r7_k ⟨by omega, by omega⟩).2
                      rw [← ehA] at ehh26
                      have u2 : ∀ i : Int, 0 ≤ i → ga hh26 (rC 783 c) i = if i = k9 then m else ga h (rC 783 c) i := fun i a => by rw [ehh26, ga_sa _ _ _ (by omega) a, n1 _ (by omega)]
                      have n2 : ∀ d : Nat, d ≠ rC 774 c → d ≠ rC 783 c → ∀ i, ga hh26 d i = ga h d i := fun d n n9 i => by rw [ehh26, ga_ne _ _ _ _ n9]; exact n1 d n i
                      have v2 : ∀ i : Int, 0 ≤ i → ga hh26 (rC 774 c) i = if i = k9 then w else ga h (rC 774 c) i := fun i a => by rw [ehh26, ga_ne _ _ _ _ (by omega)]; exact u1 i a
                      have o2 : Only lCs h hh26 := by rw [ehh26]; exact o1.set (mem_lCs.mpr (by have := rC_b (b := 774) (i := c) ⟨by omega, by omega⟩; have := rC_b (b := 783) (i := c) ⟨by omega, by omega⟩; omega))
                      obtain ⟨hB, ehB⟩ : ∃ x : MH, x = hh26 := ⟨_, rfl⟩
                      rw [← ehB] at u2 n2 v2 o2
                      refine hd_aload pkX8_addLine rfl rfl (Int.natCast_nonneg _) ?_
                      refine hd_getR (n := 791) pkX8_addLine rfl (st_cell ghh26 (c := 618) (k := 24) (n := 0) (by decide +kernel)).1 (st_cell ghh26 (c := 618) (k := 24) (n := 0) (by decide +kernel)).2.1 (st_ref ghh26 (by decide +kernel)) ?_
                      refine hd_iload pkX8_addLine rfl rfl ?_
                      refine hd_dup2 pkX8_addLine rfl rfl rfl ?_
                      refine hd_iald (n := 8) pkX8_addLine rfl (st_cell ghh26 (c := 791) (k := 0) (n := 8) (by decide +kernel)) (by omega) (by omega) (fun v27 ev27 rv27 => ?_)
                      have qv27 : k9 = v27 := by rw [ev27, ← ehB, n2 _ (by omega) (by omega)]; exact ek.symm
                      subst qv27
                      refine hd_ipush (z := 1) pkX8_addLine rfl ?_
                      refine hd_iadd pkX8_addLine rfl (by omega) ?_
                      refine hd_iast (n := 8) pkX8_addLine rfl (st_cell ghh26 (c := 791) (k := 0) (n := 8) (by decide +kernel)) (by first | decide | (unfold rC; omega)) (by omega) (by omega) (fun hh28 ehh28 => ?_)
                      have ghh28 : StrZ zT hh28 := by rw [ehh28]; exact st_arr ghh26 (by decide +kernel)
                      rw [← ehB] at ehh28
                      have u3 : ∀ i : Int, 0 ≤ i → ga hh28 791 i = if i = c then k9 + 1 else ga h 791 i := fun i a => by rw [ehh28, ga_sa _ _ _ (by omega) a, n2 _ (by omega) (by omega)]
                      have n3 : ∀ d : Nat, d ≠ 791 → ∀ i, ga hh28 d i = ga hB d i := fun d n i => by rw [ehh28]; exact ga_ne _ _ _ _ n i
                      have o3 : Only lCs h hh28 := by rw [ehh28]; exact o2.set (mem_lCs.mpr (by omega))
                      refine hd_ipush (z := 1) pkX8_addLine rfl ?_
                      refine hd_zret pkX8_addLine rfl (by omega) ?_
                      subst eQ
                      refine ⟨rfl, rfl, ⟨by decide, by decide⟩, ghh28, o3, Or.inl ⟨⟨by omega, by omega, by omega, by omega, by omega, by omega, by omega, fun z => ?_⟩, ?_, ?_, ?_, fun j j0 n => ?_, fun j i j0 j8 i0 n => ?_⟩⟩
                      · rw [ek] at z ⊢
                        omega
                      · rw [u3 c (by omega), if_pos rfl, ek]
                      · rw [ek, n3 _ (by omega), v2 k9 (by omega), if_pos rfl]
                      · rw [ek, n3 _ (by omega), u2 k9 (by omega), if_pos rfl]
                      · rw [u3 j j0, if_neg n]
                      · rw [ek] at n
                        have b1 := rC_b (b := 774) (i := j) ⟨j0, j8⟩
                        have b2 := rC_b (b := 783) (i := j) ⟨j0, j8⟩
                        rw [n3 _ (by omega), n3 _ (by omega)]
                        by_cases q : j = c
                        · subst q
                          rw [v2 i i0, u2 i i0, if_neg (by omega), if_neg (by omega)]
                          exact ⟨rfl, rfl⟩
                        · rw [n2 _ (rC_ne j0 (by omega) q) (by omega), n2 _ (by omega) (rC_ne j0 (by omega) q)]
                          exact ⟨rfl, rfl⟩
                    · skip
                      refine hd_ipush (z := 0) pkX8_addLine rfl ?_
                      refine hd_zret pkX8_addLine rfl (by omega) ?_
                      subst eQ
                      exact ⟨rfl, rfl, ⟨by decide, by decide⟩, g, Only.refl _ _, Or.inr ⟨fun o => by
                        obtain ⟨o1, o2, o3, o4, o5, o6, o7, o8⟩ := o
                        rw [ek] at o8
                        have := o8 (by omega)
                        omega, rfl⟩⟩
              · skip
                refine hd_ipush (z := 0) pkX8_addLine rfl ?_
                refine hd_zret pkX8_addLine rfl (by omega) ?_
                subst eQ
                exact ⟨rfl, rfl, ⟨by decide, by decide⟩, g, Only.refl _ _, Or.inr ⟨fun o => by obtain ⟨o1, o2, o3, o4, o5, o6, o7, o8⟩ := o; omega, rfl⟩⟩
set_option maxRecDepth 20000 in
set_option maxHeartbeats 8000000 in
theorem h_X18_noClass {h : MH} {c : Int}  : MCal KX18_noClass yX18_noClass 0 0 [(0, c)] h (mRI fun v h' => ((v = 0 ∧ 0 ≤ c ∧ c ≤ 7) ∨ (v = 1 ∧ (c < 0 ∨ 7 < c))) ∧ h' = h) := by
  refine MCal.ofMW (Or.inl rfl) ⟨cp_X18, rfl⟩ (Nat.le_of_ble_eq_true rfl) ?_
  generalize eQ : (mRI fun v h' => ((v = 0 ∧ 0 ≤ c ∧ c ≤ 7) ∨ (v = 1 ∧ (c < 0 ∨ 7 < c))) ∧ h' = h : MO → MH → Prop) = Q
  change MW KX18_noClass Q 0 0 (pcA pgX18_noClass 0) [(0, (0, c))] [] h
  refine hd_locI (i := 0) rfl (fun rc => ?_)
  refine hd_iload pkX18_noClass rfl rfl ?_
  refine hd_if_lt pkX18_noClass rfl (fun c1 => ?_) (fun c1 => ?_)
  · skip
    refine hd_ipush (z := 1) pkX18_noClass rfl ?_
    refine hd_goto pkX18_noClass rfl ?_
    refine hd_zret pkX18_noClass rfl (by omega) ?_
    subst eQ
    refine ⟨rfl, rfl, ?_, rfl⟩
    show ((1 : Int) = 0 ∧ 0 ≤ c ∧ c ≤ 7) ∨ ((1 : Int) = 1 ∧ (c < 0 ∨ 7 < c))
    omega
  · skip
    refine hd_iload pkX18_noClass rfl rfl ?_
    refine hd_ipush (z := 7) pkX18_noClass rfl ?_
    refine hd_ic_le pkX18_noClass rfl (fun c2 => ?_) (fun c2 => ?_)
    · skip
      refine hd_ipush (z := 0) pkX18_noClass rfl ?_
      refine hd_zret pkX18_noClass rfl (by omega) ?_
      subst eQ
      refine ⟨rfl, rfl, ?_, rfl⟩
      show ((0 : Int) = 0 ∧ 0 ≤ c ∧ c ≤ 7) ∨ ((0 : Int) = 1 ∧ (c < 0 ∨ 7 < c))
      omega
    · skip
      refine hd_ipush (z := 1) pkX18_noClass rfl ?_
      refine hd_goto pkX18_noClass rfl ?_
      refine hd_zret pkX18_noClass rfl (by omega) ?_
      subst eQ
      refine ⟨rfl, rfl, ?_, rfl⟩
      show ((1 : Int) = 0 ∧ 0 ≤ c ∧ c ≤ 7) ∨ ((1 : Int) = 1 ∧ (c < 0 ∨ 7 < c))
      omega
set_option maxRecDepth 20000 in
set_option maxHeartbeats 8000000 in
theorem h_X18_row {h : MH} {c w m : Int} (hl : ∀ j : Int, 0 ≤ j → j < 8 → 0 ≤ ga h 2540 j ∧ ga h 2540 j ≤ 4) (g : StrZ zT h) : MCal KX18_row yX18_row 0 0 [(2, ((2534 : Nat) : Int)), (0, c), (1, w), (1, m)] h (mRI fun v h' => (0 ≤ v ∧ v ≤ 1) ∧ A18 h c w m h') := by
  refine MCal.ofMW (Or.inl rfl) ⟨cp_X18, rfl⟩ (Nat.le_of_ble_eq_true rfl) ?_
  generalize eQ : (mRI fun v h' => (0 ≤ v ∧ v ≤ 1) ∧ A18 h c w m h' : MO → MH → Prop) = Q
  change MW KX18_row Q 0 0 (pcA pgX18_row 0) [(0, (2, ((2534 : Nat) : Int))), (1, (0, c)), (2, (1, w)), (4, (1, m))] [] h
  refine hd_locI (i := 1) rfl (fun rc => ?_)
  refine hd_locL (i := 2) rfl (fun rw => ?_)
  refine hd_locL (i := 4) rfl (fun rm => ?_)
  refine hd_iload pkX18_row rfl rfl ?_
  refine hd_callS pkX18_row rfl (q := (KX18_noClass, yX18_noClass, 18, 1, 1)) rfl rfl rfl (As := [(0, c)]) (rest := []) rfl rfl (Nat.le_of_ble_eq_true rfl) rfl (h_X18_noClass) (hd_bI (fun v1 hc1 p1 => ?_))
  obtain ⟨p1, ehc1⟩ := p1
  replace ehc1 := ehc1.symm
  subst ehc1
  refine hd_if_ne pkX18_row rfl (fun c2 => ?_) (fun c2 => ?_)
  · skip
    refine hd_ipush (z := 0) pkX18_row rfl ?_
    refine hd_zret pkX18_row rfl (by omega) ?_
    subst eQ
    exact ⟨rfl, rfl, ⟨by decide, by decide⟩, g, Only.refl _ _, Or.inr ⟨fun o => by obtain ⟨o1, o2, o3, o4, o5, o6, o7, o8⟩ := o; omega, rfl⟩⟩
  · skip
    obtain ⟨k9, ek⟩ : ∃ x : Int, ga h 2540 c = x := ⟨_, rfl⟩
    have kb := hl c (by omega) (by omega)
    rw [ek] at kb
    refine hd_aload pkX18_row rfl rfl (Int.natCast_nonneg _) ?_
    refine hd_getR (n := 2540) pkX18_row rfl (st_cell g (c := 2534) (k := 34) (n := 0) (by decide +kernel)).1 (st_cell g (c := 2534) (k := 34) (n := 0) (by decide +kernel)).2.1 (st_ref g (by decide +kernel)) ?_
    refine hd_iload pkX18_row rfl rfl ?_
    refine hd_iald (n := 8) pkX18_row rfl (st_cell g (c := 2540) (k := 0) (n := 8) (by decide +kernel)) (by omega) (by omega) (fun v3 ev3 rv3 => ?_)
    have qv3 : k9 = v3 := by rw [ev3]; exact ek.symm
    subst qv3
    refine hd_ipush (z := 4) pkX18_row rfl ?_
    refine hd_ic_eq pkX18_row rfl (fun c4 => ?_) (fun c4 => ?_)
    · skip
      refine hd_ipush (z := 0) pkX18_row rfl ?_
      refine hd_zret pkX18_row rfl (by omega) ?_
      subst eQ
      exact ⟨rfl, rfl, ⟨by decide, by decide⟩, g, Only.refl _ _, Or.inr ⟨fun o => by obtain ⟨o1, o2, o3, o4, o5, o6, o7, o8⟩ := o; omega, rfl⟩⟩
    · skip
      refine hd_lload pkX18_row rfl rfl ?_
      refine hd_lpush (z := 1) pkX18_row rfl ?_
      refine hd_lc_lt pkX18_row rfl (fun c5 => ?_) (fun c5 => ?_)
      · skip
        refine hd_ipush (z := 0) pkX18_row rfl ?_
        refine hd_zret pkX18_row rfl (by omega) ?_
        subst eQ
        exact ⟨rfl, rfl, ⟨by decide, by decide⟩, g, Only.refl _ _, Or.inr ⟨fun o => by obtain ⟨o1, o2, o3, o4, o5, o6, o7, o8⟩ := o; omega, rfl⟩⟩
      · skip
        refine hd_lload pkX18_row rfl rfl ?_
        refine hd_lpush (z := 2000000) pkX18_row rfl ?_
        refine hd_lc_gt pkX18_row rfl (fun c6 => ?_) (fun c6 => ?_)
        · skip
          refine hd_ipush (z := 0) pkX18_row rfl ?_
          refine hd_zret pkX18_row rfl (by omega) ?_
          subst eQ
          exact ⟨rfl, rfl, ⟨by decide, by decide⟩, g, Only.refl _ _, Or.inr ⟨fun o => by obtain ⟨o1, o2, o3, o4, o5, o6, o7, o8⟩ := o; omega, rfl⟩⟩
        · skip
          refine hd_lload pkX18_row rfl rfl ?_
          refine hd_lpush (z := 1) pkX18_row rfl ?_
          refine hd_lc_lt pkX18_row rfl (fun c7 => ?_) (fun c7 => ?_)
          · skip
            refine hd_ipush (z := 0) pkX18_row rfl ?_
            refine hd_zret pkX18_row rfl (by omega) ?_
            subst eQ
            exact ⟨rfl, rfl, ⟨by decide, by decide⟩, g, Only.refl _ _, Or.inr ⟨fun o => by obtain ⟨o1, o2, o3, o4, o5, o6, o7, o8⟩ := o; omega, rfl⟩⟩
          · skip
            refine hd_lload pkX18_row rfl rfl ?_
            refine hd_lpush (z := 1000000) pkX18_row rfl ?_
            refine hd_lc_le pkX18_row rfl (fun c8 => ?_) (fun c8 => ?_)
            · skip
              refine hd_ipush (z := 4) pkX18_row rfl ?_
              refine hd_iload pkX18_row rfl rfl ?_
              refine hd_imul pkX18_row rfl (by omega) ?_
              refine hd_aload pkX18_row rfl rfl (Int.natCast_nonneg _) ?_
              refine hd_getR (n := 2540) pkX18_row rfl (st_cell g (c := 2534) (k := 34) (n := 0) (by decide +kernel)).1 (st_cell g (c := 2534) (k := 34) (n := 0) (by decide +kernel)).2.1 (st_ref g (by decide +kernel)) ?_
              refine hd_iload pkX18_row rfl rfl ?_
              refine hd_iald (n := 8) pkX18_row rfl (st_cell g (c := 2540) (k := 0) (n := 8) (by decide +kernel)) (by omega) (by omega) (fun v9 ev9 rv9 => ?_)
              have qv9 : k9 = v9 := by rw [ev9]; exact ek.symm
              subst qv9
              refine hd_iadd pkX18_row rfl (by omega) ?_
              generalize eat9 : ((4 * c) + k9) = at9
              refine hd_istore pkX18_row rfl rfl ?_
              change MW _ _ _ _ _ [(6, (0, at9)), (0, (2, ((2534 : Nat) : Int))), (1, (0, c)), (2, (1, w)), (4, (1, m))] _ _
              refine hd_aload pkX18_row rfl rfl (Int.natCast_nonneg _) ?_
              refine hd_getR (n := 2540) pkX18_row rfl (st_cell g (c := 2534) (k := 34) (n := 0) (by decide +kernel)).1 (st_cell g (c := 2534) (k := 34) (n := 0) (by decide +kernel)).2.1 (st_ref g (by decide +kernel)) ?_
              refine hd_iload pkX18_row rfl rfl ?_
              refine hd_iald (n := 8) pkX18_row rfl (st_cell g (c := 2540) (k := 0) (n := 8) (by decide +kernel)) (by omega) (by omega) (fun v10 ev10 rv10 => ?_)
              have qv10 : k9 = v10 := by rw [ev10]; exact ek.symm
              subst qv10
              refine hd_if_le pkX18_row rfl (fun c11 => ?_) (fun c11 => ?_)
              · skip
                refine hd_aload pkX18_row rfl rfl (Int.natCast_nonneg _) ?_
                refine hd_getR (n := 2541) pkX18_row rfl (st_cell g (c := 2534) (k := 34) (n := 0) (by decide +kernel)).1 (st_cell g (c := 2534) (k := 34) (n := 0) (by decide +kernel)).2.1 (st_ref g (by decide +kernel)) ?_
                refine hd_iload pkX18_row rfl rfl ?_
                refine hd_lload pkX18_row rfl rfl ?_
                refine hd_last (n := 32) pkX18_row rfl (st_cell g (c := 2541) (k := 1) (n := 32) (by decide +kernel)) (by first | decide | (unfold rC; omega)) (by omega) (by omega) (fun hh12 ehh12 => ?_)
                have ghh12 : StrZ zT hh12 := by rw [ehh12]; exact st_arr g (by decide +kernel)
                have u1 : ∀ i : Int, 0 ≤ i → ga hh12 2541 i = if i = at9 then w else ga h 2541 i := fun i a => by rw [ehh12]; exact ga_sa _ _ _ (by omega) a
                have n1 : ∀ d : Nat, d ≠ 2541 → ∀ i, ga hh12 d i = ga h d i := fun d n i => by rw [ehh12]; exact ga_ne _ _ _ _ n i
                have o1 : Only [2540, 2541, 2542] h hh12 := by rw [ehh12]; exact (Only.refl _ _).set (by decide)
                obtain ⟨hA, ehA⟩ : ∃ x : MH, x = hh12 := ⟨_, rfl⟩
                rw [← ehA] at u1 n1 o1
                refine hd_aload pkX18_row rfl rfl (Int.natCast_nonneg _) ?_
                refine hd_getR (n := 2542) pkX18_row rfl (st_cell ghh12 (c := 2534) (k := 34) (n := 0) (by decide +kernel)).1 (st_cell ghh12 (c := 2534) (k := 34) (n := 0) (by decide +kernel)).2.1 (st_ref ghh12 (by decide +kernel)) ?_
                refine hd_iload pkX18_row rfl rfl ?_
                refine hd_lload pkX18_row rfl rfl ?_
                refine hd_last (n := 32) pkX18_row rfl (st_cell ghh12 (c := 2542) (k := 1) (n := 32) (by decide +kernel)) (by first | decide | (unfold rC; omega)) (by omega) (by omega) (fun hh13 ehh13 => ?_)
                have ghh13 : StrZ zT hh13 := by rw [ehh13]; exact st_arr ghh12 (by decide +kernel)
                rw [← ehA] at ehh13
                have u2 : ∀ i : Int, 0 ≤ i → ga hh13 2542 i = if i = at9 then m else ga h 2542 i := fun i a => by rw [ehh13, ga_sa _ _ _ (by omega) a, n1 _ (by decide)]
                have n2 : ∀ d : Nat, d ≠ 2542 → ∀ i, ga hh13 d i = ga hA d i := fun d n i => by rw [ehh13]; exact ga_ne _ _ _ _ n i
                have o2 : Only [2540, 2541, 2542] h hh13 := by rw [ehh13]; exact o1.set (by decide)
                obtain ⟨hB, ehB⟩ : ∃ x : MH, x = hh13 := ⟨_, rfl⟩
                rw [← ehB] at u2 n2 o2
                refine hd_aload pkX18_row rfl rfl (Int.natCast_nonneg _) ?_
                refine hd_getR (n := 2540) pkX18_row rfl (st_cell ghh13 (c := 2534) (k := 34) (n := 0) (by decide +kernel)).1 (st_cell ghh13 (c := 2534) (k := 34) (n := 0) (by decide +kernel)).2.1 (st_ref ghh13 (by decide +kernel)) ?_
                refine hd_iload pkX18_row rfl rfl ?_
                refine hd_dup2 pkX18_row rfl rfl rfl ?_
                refine hd_iald (n := 8) pkX18_row rfl (st_cell ghh13 (c := 2540) (k := 0) (n := 8) (by decide +kernel)) (by omega) (by omega) (fun v14 ev14 rv14 => ?_)
                have qv14 : k9 = v14 := by rw [ev14, ← ehB, n2 _ (by decide), n1 _ (by decide)]; exact ek.symm
                subst qv14
                refine hd_ipush (z := 1) pkX18_row rfl ?_
                refine hd_iadd pkX18_row rfl (by omega) ?_
                refine hd_iast (n := 8) pkX18_row rfl (st_cell ghh13 (c := 2540) (k := 0) (n := 8) (by decide +kernel)) (by first | decide | (unfold rC; omega)) (by omega) (by omega) (fun hh15 ehh15 => ?_)
                have ghh15 : StrZ zT hh15 := by rw [ehh15]; exact st_arr ghh13 (by decide +kernel)
                rw [← ehB] at ehh15
                have u3 : ∀ i : Int, 0 ≤ i → ga hh15 2540 i = if i = c then k9 + 1 else ga h 2540 i := fun i a => by rw [ehh15, ga_sa _ _ _ (by omega) a, n2 _ (by decide), n1 _ (by decide)]
                have n3 : ∀ d : Nat, d ≠ 2540 → ∀ i, ga hh15 d i = ga hB d i := fun d n i => by rw [ehh15]; exact ga_ne _ _ _ _ n i
                have o3 : Only [2540, 2541, 2542] h hh15 := by rw [ehh15]; exact o2.set (by decide)
                refine hd_ipush (z := 1) pkX18_row rfl ?_
                refine hd_zret pkX18_row rfl (by omega) ?_
                subst eQ
                refine ⟨rfl, rfl, ⟨by decide, by decide⟩, ghh15, o3, Or.inl ⟨⟨by omega, by omega, by omega, by omega, by omega, by omega, by omega, fun z => ?_⟩, ?_, ?_, ?_, fun j j0 n => ?_, fun i i0 n => ?_⟩⟩
                · rw [ek] at z
                  rw [ek, eat9]
                  omega
                · rw [u3 c (by omega), if_pos rfl, ek]
                · rw [ek, eat9, n3 _ (by decide), n2 _ (by decide), u1 at9 (by omega), if_pos rfl]
                · rw [ek, eat9, n3 _ (by decide), u2 at9 (by omega), if_pos rfl]
                · rw [u3 j j0, if_neg n]
                · rw [ek, eat9] at n
                  rw [n3 _ (by decide), n3 _ (by decide), n2 _ (by decide), u1 i i0, u2 i i0, if_neg n, if_neg n]
                  exact ⟨rfl, rfl⟩
              · skip
                refine hd_lload pkX18_row rfl rfl ?_
                refine hd_aload pkX18_row rfl rfl (Int.natCast_nonneg _) ?_
                refine hd_getR (n := 2541) pkX18_row rfl (st_cell g (c := 2534) (k := 34) (n := 0) (by decide +kernel)).1 (st_cell g (c := 2534) (k := 34) (n := 0) (by decide +kernel)).2.1 (st_ref g (by decide +kernel)) ?_
                refine hd_iload pkX18_row rfl rfl ?_
                refine hd_ipush (z := 1) pkX18_row rfl ?_
                refine hd_isub pkX18_row rfl (by omega) ?_
                refine hd_lald (n := 32) pkX18_row rfl (st_cell g (c := 2541) (k := 1) (n := 32) (by decide +kernel)) (by omega) (by omega) (fun v16 ev16 rv16 => ?_)
                have x40 := ev16
                refine hd_lc_ge pkX18_row rfl (fun c17 => ?_) (fun c17 => ?_)
                · skip
                  refine hd_ipush (z := 0) pkX18_row rfl ?_
                  refine hd_zret pkX18_row rfl (by omega) ?_
                  subst eQ
                  exact ⟨rfl, rfl, ⟨by decide, by decide⟩, g, Only.refl _ _, Or.inr ⟨fun o => by
                    obtain ⟨o1, o2, o3, o4, o5, o6, o7, o8⟩ := o
                    rw [ek, eat9] at o8
                    have := o8 (by omega)
                    omega, rfl⟩⟩
                · skip
                  refine hd_lload pkX18_row rfl rfl ?_
                  refine hd_aload pkX18_row rfl rfl (Int.natCast_nonneg _) ?_
                  refine hd_getR (n := 2542) pkX18_row rfl (st_cell g (c := 2534) (k := 34) (n := 0) (by decide +kernel)).1 (st_cell g (c := 2534) (k := 34) (n := 0) (by decide +kernel)).2.1 (st_ref g (by decide +kernel)) ?_
                  refine hd_iload pkX18_row rfl rfl ?_
                  refine hd_ipush (z := 1) pkX18_row rfl ?_
                  refine hd_isub pkX18_row rfl (by omega) ?_
                  refine hd_lald (n := 32) pkX18_row rfl (st_cell g (c := 2542) (k := 1) (n := 32) (by decide +kernel)) (by omega) (by omega) (fun v18 ev18 rv18 => ?_)
                  have x50 := ev18
                  refine hd_lc_gt pkX18_row rfl (fun c19 => ?_) (fun c19 => ?_)
                  · skip
                    refine hd_aload pkX18_row rfl rfl (Int.natCast_nonneg _) ?_
                    refine hd_getR (n := 2541) pkX18_row rfl (st_cell g (c := 2534) (k := 34) (n := 0) (by decide +kernel)).1 (st_cell g (c := 2534) (k := 34) (n := 0) (by decide +kernel)).2.1 (st_ref g (by decide +kernel)) ?_
                    refine hd_iload pkX18_row rfl rfl ?_
                    refine hd_lload pkX18_row rfl rfl ?_
                    refine hd_last (n := 32) pkX18_row rfl (st_cell g (c := 2541) (k := 1) (n := 32) (by decide +kernel)) (by first | decide | (unfold rC; omega)) (by omega) (by omega) (fun hh20 ehh20 => ?_)
                    have ghh20 : StrZ zT hh20 := by rw [ehh20]; exact st_arr g (by decide +kernel)
                    have u1 : ∀ i : Int, 0 ≤ i → ga hh20 2541 i = if i = at9 then w else ga h 2541 i := fun i a => by rw [ehh20]; exact ga_sa _ _ _ (by omega) a
                    have n1 : ∀ d : Nat, d ≠ 2541 → ∀ i, ga hh20 d i = ga h d i := fun d n i => by rw [ehh20]; exact ga_ne _ _ _ _ n i
                    have o1 : Only [2540, 2541, 2542] h hh20 := by rw [ehh20]; exact (Only.refl _ _).set (by decide)
                    obtain ⟨hA, ehA⟩ : ∃ x : MH, x = hh20 := ⟨_, rfl⟩
                    rw [← ehA] at u1 n1 o1
                    refine hd_aload pkX18_row rfl rfl (Int.natCast_nonneg _) ?_
                    refine hd_getR (n := 2542) pkX18_row rfl (st_cell ghh20 (c := 2534) (k := 34) (n := 0) (by decide +kernel)).1 (st_cell ghh20 (c := 2534) (k := 34) (n := 0) (by decide +kernel)).2.1 (st_ref ghh20 (by decide +kernel)) ?_
                    refine hd_iload pkX18_row rfl rfl ?_
                    refine hd_lload pkX18_row rfl rfl ?_
                    refine hd_last (n := 32) pkX18_row rfl (st_cell ghh20 (c := 2542) (k := 1) (n := 32) (by decide +kernel)) (by first | decide | (unfold rC; omega)) (by omega) (by omega) (fun hh21 ehh21 => ?_)
                    have ghh21 : StrZ zT hh21 := by rw [ehh21]; exact st_arr ghh20 (by decide +kernel)
                    rw [← ehA] at ehh21
                    have u2 : ∀ i : Int, 0 ≤ i → ga hh21 2542 i = if i = at9 then m else ga h 2542 i := fun i a => by rw [ehh21, ga_sa _ _ _ (by omega) a, n1 _ (by decide)]
                    have n2 : ∀ d : Nat, d ≠ 2542 → ∀ i, ga hh21 d i = ga hA d i := fun d n i => by rw [ehh21]; exact ga_ne _ _ _ _ n i
                    have o2 : Only [2540, 2541, 2542] h hh21 := by rw [ehh21]; exact o1.set (by decide)
                    obtain ⟨hB, ehB⟩ : ∃ x : MH, x = hh21 := ⟨_, rfl⟩
                    rw [← ehB] at u2 n2 o2
                    refine hd_aload pkX18_row rfl rfl (Int.natCast_nonneg _) ?_
                    refine hd_getR (n := 2540) pkX18_row rfl (st_cell ghh21 (c := 2534) (k := 34) (n := 0) (by decide +kernel)).1 (st_cell ghh21 (c := 2534) (k := 34) (n := 0) (by decide +kernel)).2.1 (st_ref ghh21 (by decide +kernel)) ?_
                    refine hd_iload pkX18_row rfl rfl ?_
                    refine hd_dup2 pkX18_row rfl rfl rfl ?_
                    refine hd_iald (n := 8) pkX18_row rfl (st_cell ghh21 (c := 2540) (k := 0) (n := 8) (by decide +kernel)) (by omega) (by omega) (fun v22 ev22 rv22 => ?_)
                    have qv22 : k9 = v22 := by rw [ev22, ← ehB, n2 _ (by decide), n1 _ (by decide)]; exact ek.symm
                    subst qv22
                    refine hd_ipush (z := 1) pkX18_row rfl ?_
                    refine hd_iadd pkX18_row rfl (by omega) ?_
                    refine hd_iast (n := 8) pkX18_row rfl (st_cell ghh21 (c := 2540) (k := 0) (n := 8) (by decide +kernel)) (by first | decide | (unfold rC; omega)) (by omega) (by omega) (fun hh23 ehh23 => ?_)
                    have ghh23 : StrZ zT hh23 := by rw [ehh23]; exact st_arr ghh21 (by decide +kernel)
                    rw [← ehB] at ehh23
                    have u3 : ∀ i : Int, 0 ≤ i → ga hh23 2540 i = if i = c then k9 + 1 else ga h 2540 i := fun i a => by rw [ehh23, ga_sa _ _ _ (by omega) a, n2 _ (by decide), n1 _ (by decide)]
                    have n3 : ∀ d : Nat, d ≠ 2540 → ∀ i, ga hh23 d i = ga hB d i := fun d n i => by rw [ehh23]; exact ga_ne _ _ _ _ n i
                    have o3 : Only [2540, 2541, 2542] h hh23 := by rw [ehh23]; exact o2.set (by decide)
                    refine hd_ipush (z := 1) pkX18_row rfl ?_
                    refine hd_zret pkX18_row rfl (by omega) ?_
                    subst eQ
                    refine ⟨rfl, rfl, ⟨by decide, by decide⟩, ghh23, o3, Or.inl ⟨⟨by omega, by omega, by omega, by omega, by omega, by omega, by omega, fun z => ?_⟩, ?_, ?_, ?_, fun j j0 n => ?_, fun i i0 n => ?_⟩⟩
                    · rw [ek] at z
                      rw [ek, eat9]
                      omega
                    · rw [u3 c (by omega), if_pos rfl, ek]
                    · rw [ek, eat9, n3 _ (by decide), n2 _ (by decide), u1 at9 (by omega), if_pos rfl]
                    · rw [ek, eat9, n3 _ (by decide), u2 at9 (by omega), if_pos rfl]
                    · rw [u3 j j0, if_neg n]
                    · rw [ek, eat9] at n
                      rw [n3 _ (by decide), n3 _ (by decide), n2 _ (by decide), u1 i i0, u2 i i0, if_neg n, if_neg n]
                      exact ⟨rfl, rfl⟩
                  · skip
                    refine hd_ipush (z := 0) pkX18_row rfl ?_
                    refine hd_zret pkX18_row rfl (by omega) ?_
                    subst eQ
                    exact ⟨rfl, rfl, ⟨by decide, by decide⟩, g, Only.refl _ _, Or.inr ⟨fun o => by
                      obtain ⟨o1, o2, o3, o4, o5, o6, o7, o8⟩ := o
                      rw [ek, eat9] at o8
                      have := o8 (by omega)
                      omega, rfl⟩⟩
            · skip
              refine hd_ipush (z := 0) pkX18_row rfl ?_
              refine hd_zret pkX18_row rfl (by omega) ?_
              subst eQ
              exact ⟨rfl, rfl, ⟨by decide, by decide⟩, g, Only.refl _ _, Or.inr ⟨fun o => by obtain ⟨o1, o2, o3, o4, o5, o6, o7, o8⟩ := o; omega, rfl⟩⟩
set_option maxRecDepth 20000 in
set_option maxHeartbeats 8000000 in
theorem h_X20_truth {h : MH} {b : Int} (b0 : 0 ≤ b ∧ b ≤ 1)  : MCal KX20_truth yX20_truth 0 0 [(0, b)] h (mRL fun v h' => (0 ≤ v ∧ v ≤ 1) ∧ h' = h) := by
  refine MCal.ofMW (Or.inl rfl) ⟨cp_X20, rfl⟩ (Nat.le_of_ble_eq_true rfl) ?_
  generalize eQ : (mRL fun v h' => (0 ≤ v ∧ v ≤ 1) ∧ h' = h : MO → MH → Prop) = Q
  change MW KX20_truth Q 0 0 (pcA pgX20_truth 0) [(0, (0, b))] [] h
  refine hd_locI (i := 0) rfl (fun rb => ?_)
  refine hd_iload pkX20_truth rfl rfl ?_
  refine hd_if_eq pkX20_truth rfl (fun c1 => ?_) (fun c1 => ?_)
  · skip
    refine hd_lpush (z := 0) pkX20_truth rfl ?_
    refine hd_lret pkX20_truth rfl ?_
    subst eQ
    refine ⟨rfl, rfl, ?_, rfl⟩
    show (0 : Int) ≤ 0 ∧ (0 : Int) ≤ 1
    omega
  · skip
    refine hd_lpush (z := 1) pkX20_truth rfl ?_
    refine hd_goto pkX20_truth rfl ?_
    refine hd_lret pkX20_truth rfl ?_
    subst eQ
    refine ⟨rfl, rfl, ?_, rfl⟩
    show (0 : Int) ≤ 1 ∧ (1 : Int) ≤ 1
    omega
set_option maxRecDepth 20000 in
set_option maxHeartbeats 8000000 in
theorem h_X8_answer6 {h : MH} {c w m : Int} (hl : ∀ j : Int, 0 ≤ j → j < 8 → 0 ≤ ga h 791 j ∧ ga h 791 j ≤ 4) (g : StrZ zT h) : MCal KX8_answer yX8_answer 0 0 [(2, ((618 : Nat) : Int)), (0, 6), (0, c), (0, w), (0, m)] h (mRL fun _ h' => A8 h c w m h') := by
  refine MCal.ofMW (Or.inl rfl) ⟨cp_X8, rfl⟩ (Nat.le_of_ble_eq_true rfl) ?_
  generalize eQ : (mRL fun _ h' => A8 h c w m h' : MO → MH → Prop) = Q
  change MW KX8_answer Q 0 0 (pcA pgX8_answer 0) [(0, (2, ((618 : Nat) : Int))), (1, (0, 6)), (2, (0, c)), (3, (0, w)), (4, (0, m))] [] h
  refine hd_locI (i := 2) rfl (fun rc => ?_)
  refine hd_locI (i := 3) rfl (fun rw => ?_)
  refine hd_locI (i := 4) rfl (fun rm => ?_)
  refine hd_iload pkX8_answer rfl rfl ?_
  refine hd_sw (lo := 0) (t := 44) pkX8_answer rfl rfl rfl (by decide) ?_
  refine hd_aload pkX8_answer rfl rfl (Int.natCast_nonneg _) ?_
  refine hd_iload pkX8_answer rfl rfl ?_
  refine hd_iload pkX8_answer rfl rfl ?_
  refine hd_iload pkX8_answer rfl rfl ?_
  refine hd_callV pkX8_answer rfl (q := (KX8_addLine, yX8_addLine, 8, 3, 0)) rfl rfl rfl (As := [(0, c), (0, w), (0, m)]) (rest := []) (c := 618) rfl rfl (Nat.le_of_ble_eq_true rfl) (st_cell g (c := 618) (k := 24) (n := 0) (by decide +kernel)).1 (st_cell g (c := 618) (k := 24) (n := 0) (by decide +kernel)).2.1 (h_X8_addLine hl g) (hd_bI (fun v48 hc1 p48 => ?_))
  have ghc1 : StrZ zT hc1 := p48.2.1
  refine hd_if_eq pkX8_answer rfl (fun c2 => ?_) (fun c2 => ?_)
  · skip
    refine hd_lpush (z := 0) pkX8_answer rfl ?_
    refine hd_lret pkX8_answer rfl ?_
    subst eQ
    exact ⟨rfl, rfl, p48.2⟩
  · skip
    refine hd_lpush (z := 1) pkX8_answer rfl ?_
    refine hd_goto pkX8_answer rfl ?_
    refine hd_lret pkX8_answer rfl ?_
    subst eQ
    exact ⟨rfl, rfl, p48.2⟩
set_option maxRecDepth 20000 in
set_option maxHeartbeats 8000000 in
theorem h_X11_act406 {h : MH} {c w m p4 p5 : Int} (hl : ∀ j : Int, 0 ≤ j → j < 8 → 0 ≤ ga h 791 j ∧ ga h 791 j ≤ 4) (g : StrZ zT h) : MCal KX11_act yX11_act 0 0 [(2, ((4 : Nat) : Int)), (0, 406), (0, c), (0, w), (0, m), (0, p4), (0, p5)] h (mRL fun _ h' => A8 h c w m h') := by
  refine MCal.ofMW (Or.inl rfl) ⟨cp_X11, rfl⟩ (Nat.le_of_ble_eq_true rfl) ?_
  generalize eQ : (mRL fun _ h' => A8 h c w m h' : MO → MH → Prop) = Q
  change MW KX11_act Q 0 0 (pcA pgX11_act 0) [(0, (2, ((4 : Nat) : Int))), (1, (0, 406)), (2, (0, c)), (3, (0, w)), (4, (0, m)), (5, (0, p4)), (6, (0, p5))] [] h
  refine hd_locI (i := 2) rfl (fun rc => ?_)
  refine hd_locI (i := 3) rfl (fun rw => ?_)
  refine hd_locI (i := 4) rfl (fun rm => ?_)
  refine hd_locI (i := 5) rfl (fun rp4 => ?_)
  refine hd_locI (i := 6) rfl (fun rp5 => ?_)
  refine hd_iload pkX11_act rfl rfl ?_
  refine hd_if_ge pkX11_act rfl (fun c1 => ?_) (fun c1 => ?_)
  · skip
    refine hd_iload pkX11_act rfl rfl ?_
    refine hd_ipush (z := 100) pkX11_act rfl ?_
    refine hd_irem pkX11_act rfl (by decide) (by decide) ?_
    change MW _ _ _ _ _ _ [(0, 6)] _
    refine hd_istore pkX11_act rfl rfl ?_
    change MW _ _ _ _ _ [(7, (0, 6)), (0, (2, ((4 : Nat) : Int))), (1, (0, 406)), (2, (0, c)), (3, (0, w)), (4, (0, m)), (5, (0, p4)), (6, (0, p5))] _ _
    refine hd_iload pkX11_act rfl rfl ?_
    refine hd_ipush (z := 100) pkX11_act rfl ?_
    refine hd_idiv pkX11_act rfl (by decide) (by decide) ?_
    change MW _ _ _ _ _ _ [(0, 4)] _
    refine hd_sw (lo := 0) (t := 48) pkX11_act rfl rfl rfl (by decide) ?_
    refine hd_aload pkX11_act rfl rfl (Int.natCast_nonneg _) ?_
    refine hd_getR (n := 618) pkX11_act rfl (st_cell g (c := 4) (k := 27) (n := 0) (by decide +kernel)).1 (st_cell g (c := 4) (k := 27) (n := 0) (by decide +kernel)).2.1 (st_ref g (by decide +kernel)) ?_
    refine hd_iload pkX11_act rfl rfl ?_
    refine hd_iload pkX11_act rfl rfl ?_
    refine hd_iload pkX11_act rfl rfl ?_
    refine hd_iload pkX11_act rfl rfl ?_
    refine hd_callV pkX11_act rfl (q := (KX8_answer, yX8_answer, 8, 4, 0)) rfl rfl rfl (As := [(0, 6), (0, c), (0, w), (0, m)]) (rest := []) (c := 618) rfl rfl (Nat.le_of_ble_eq_true rfl) (st_cell g (c := 618) (k := 24) (n := 0) (by decide +kernel)).1 (st_cell g (c := 618) (k := 24) (n := 0) (by decide +kernel)).2.1 (h_X8_answer6 hl g) (hd_bL (fun v54 hc2 p54 => ?_))
    have ghc2 : StrZ zT hc2 := p54.1
    refine hd_lret pkX11_act rfl ?_
    subst eQ
    exact ⟨rfl, rfl, p54⟩
  · exfalso
    omega
set_option maxRecDepth 20000 in
set_option maxHeartbeats 8000000 in
theorem h_X20_stressCall6 {h : MH} {c w m p4 p5 : Int} (hl : ∀ j : Int, 0 ≤ j → j < 8 → 0 ≤ ga h 2540 j ∧ ga h 2540 j ≤ 4) (g : StrZ zT h) : MCal KX20_stressCall yX20_stressCall 0 0 [(2, ((2448 : Nat) : Int)), (0, 6), (0, c), (0, w), (0, m), (0, p4), (0, p5)] h (mRL fun _ h' => A18 h c w m h') := by
  refine MCal.ofMW (Or.inl rfl) ⟨cp_X20, rfl⟩ (Nat.le_of_ble_eq_true rfl) ?_
  generalize eQ : (mRL fun _ h' => A18 h c w m h' : MO → MH → Prop) = Q
  change MW KX20_stressCall Q 0 0 (pcA pgX20_stressCall 0) [(0, (2, ((2448 : Nat) : Int))), (1, (0, 6)), (2, (0, c)), (3, (0, w)), (4, (0, m)), (5, (0, p4)), (6, (0, p5))] [] h
  refine hd_locI (i := 2) rfl (fun rc => ?_)
  refine hd_locI (i := 3) rfl (fun rw => ?_)
  refine hd_locI (i := 4) rfl (fun rm => ?_)
  refine hd_locI (i := 5) rfl (fun rp4 => ?_)
  refine hd_locI (i := 6) rfl (fun rp5 => ?_)
  refine hd_iload pkX20_stressCall rfl rfl ?_
  refine hd_sw (lo := 0) (t := 36) pkX20_stressCall rfl rfl rfl (by decide) ?_
  refine hd_aload pkX20_stressCall rfl rfl (Int.natCast_nonneg _) ?_
  refine hd_getR (n := 2534) pkX20_stressCall rfl (st_cell g (c := 2448) (k := 36) (n := 0) (by decide +kernel)).1 (st_cell g (c := 2448) (k := 36) (n := 0) (by decide +kernel)).2.1 (st_ref g (by decide +kernel)) ?_
  refine hd_iload pkX20_stressCall rfl rfl ?_
  refine hd_iload pkX20_stressCall rfl rfl ?_
  refine hd_i2l pkX20_stressCall rfl ?_
  refine hd_iload pkX20_stressCall rfl rfl ?_
  refine hd_i2l pkX20_stressCall rfl ?_
  refine hd_callV pkX20_stressCall rfl (q := (KX18_row, yX18_row, 18, 3, 0)) rfl rfl rfl (As := [(0, c), (1, w), (1, m)]) (rest := []) (c := 2534) rfl rfl (Nat.le_of_ble_eq_true rfl) (st_cell g (c := 2534) (k := 34) (n := 0) (by decide +kernel)).1 (st_cell g (c := 2534) (k := 34) (n := 0) (by decide +kernel)).2.1 (h_X18_row hl g) (hd_bI (fun v43 hc1 p43 => ?_))
  have ghc1 : StrZ zT hc1 := p43.2.1
  refine hd_callS pkX20_stressCall rfl (q := (KX20_truth, yX20_truth, 20, 1, 1)) rfl rfl rfl (As := [(0, v43)]) (rest := []) rfl rfl (Nat.le_of_ble_eq_true rfl) rfl (h_X20_truth (by omega)) (hd_bL (fun v44 hc2 p44 => ?_))
  obtain ⟨p44, ehc2⟩ := p44
  replace ehc2 := ehc2.symm
  subst ehc2
  refine hd_lret pkX20_stressCall rfl ?_
  subst eQ
  exact ⟨rfl, rfl, p43.2⟩
set_option maxRecDepth 20000 in
set_option maxHeartbeats 8000000 in
theorem h_X20_act406 {h : MH} {c w m p4 p5 : Int} (hl : ∀ j : Int, 0 ≤ j → j < 8 → 0 ≤ ga h 2540 j ∧ ga h 2540 j ≤ 4) (g : StrZ zT h) : MCal KX20_act yX20_act 0 0 [(2, ((2448 : Nat) : Int)), (0, 406), (0, c), (0, w), (0, m), (0, p4), (0, p5)] h (mRL fun _ h' => A18 (sa h 2448 0 0) c w m h') := by
  refine MCal.ofMW (Or.inl rfl) ⟨cp_X20, rfl⟩ (Nat.le_of_ble_eq_true rfl) ?_
  generalize eQ : (mRL fun _ h' => A18 (sa h 2448 0 0) c w m h' : MO → MH → Prop) = Q
  change MW KX20_act Q 0 0 (pcA pgX20_act 0) [(0, (2, ((2448 : Nat) : Int))), (1, (0, 406)), (2, (0, c)), (3, (0, w)), (4, (0, m)), (5, (0, p4)), (6, (0, p5))] [] h
  refine hd_locI (i := 2) rfl (fun rc => ?_)
  refine hd_locI (i := 3) rfl (fun rw => ?_)
  refine hd_locI (i := 4) rfl (fun rm => ?_)
  refine hd_locI (i := 5) rfl (fun rp4 => ?_)
  refine hd_locI (i := 6) rfl (fun rp5 => ?_)
  refine hd_aload pkX20_act rfl rfl (Int.natCast_nonneg _) ?_
  refine hd_ipush (z := 0) pkX20_act rfl ?_
  refine hd_putI pkX20_act rfl (st_cell g (c := 2448) (k := 36) (n := 0) (by decide +kernel)).1 (st_cell g (c := 2448) (k := 36) (n := 0) (by decide +kernel)).2.1 (fun hh1 ehh1 => ?_)
  replace ehh1 : hh1 = sa h 2448 0 0 := ehh1
  subst hh1
  have ghh1 : StrZ zT (sa h 2448 0 0) := st_fld2 g (by decide +kernel) (by decide +kernel)
  refine hd_iload pkX20_act rfl rfl ?_
  refine hd_if_ge pkX20_act rfl (fun c2 => ?_) (fun c2 => ?_)
  · skip
    refine hd_iload pkX20_act rfl rfl ?_
    refine hd_ipush (z := 100) pkX20_act rfl ?_
    refine hd_irem pkX20_act rfl (by decide) (by decide) ?_
    change MW _ _ _ _ _ _ [(0, 6)] _
    refine hd_istore pkX20_act rfl rfl ?_
    change MW _ _ _ _ _ [(7, (0, 6)), (0, (2, ((2448 : Nat) : Int))), (1, (0, 406)), (2, (0, c)), (3, (0, w)), (4, (0, m)), (5, (0, p4)), (6, (0, p5))] _ _
    refine hd_lpush (z := (-9000000000000000000)) pkX20_act rfl ?_
    refine hd_lstore pkX20_act rfl rfl ?_
    change MW _ _ _ _ _ [(8, (1, (-9000000000000000000))), (7, (0, 6)), (0, (2, ((2448 : Nat) : Int))), (1, (0, 406)), (2, (0, c)), (3, (0, w)), (4, (0, m)), (5, (0, p4)), (6, (0, p5))] _ _
    refine hd_iload pkX20_act rfl rfl ?_
    refine hd_ipush (z := 100) pkX20_act rfl ?_
    refine hd_idiv pkX20_act rfl (by decide) (by decide) ?_
    change MW _ _ _ _ _ _ [(0, 4)] _
    refine hd_sw (lo := 0) (t := 102) pkX20_act rfl rfl rfl (by decide) ?_
    refine hd_aload pkX20_act rfl rfl (Int.natCast_nonneg _) ?_
    refine hd_iload pkX20_act rfl rfl ?_
    refine hd_iload pkX20_act rfl rfl ?_
    refine hd_iload pkX20_act rfl rfl ?_
    refine hd_iload pkX20_act rfl rfl ?_
    refine hd_iload pkX20_act rfl rfl ?_
    refine hd_iload pkX20_act rfl rfl ?_
    refine hd_callV pkX20_act rfl (q := (KX20_stressCall, yX20_stressCall, 20, 6, 0)) rfl rfl rfl (As := [(0, 6), (0, c), (0, w), (0, m), (0, p4), (0, p5)]) (rest := []) (c := 2448) rfl rfl (Nat.le_of_ble_eq_true rfl) (st_cell ghh1 (c := 2448) (k := 36) (n := 0) (by decide +kernel)).1 (st_cell ghh1 (c := 2448) (k := 36) (n := 0) (by decide +kernel)).2.1 (h_X20_stressCall6 hl ghh1) (hd_bL (fun v109 hc3 p109 => ?_))
    have ghc3 : StrZ zT hc3 := p109.1
    refine hd_lstore pkX20_act rfl rfl ?_
    change MW _ _ _ _ _ [(8, (1, v109)), (7, (0, 6)), (0, (2, ((2448 : Nat) : Int))), (1, (0, 406)), (2, (0, c)), (3, (0, w)), (4, (0, m)), (5, (0, p4)), (6, (0, p5))] _ _
    refine hd_goto pkX20_act rfl ?_
    refine hd_aload pkX20_act rfl rfl (Int.natCast_nonneg _) ?_
    refine hd_getI pkX20_act rfl (st_cell ghc3 (c := 2448) (k := 36) (n := 0) (by decide +kernel)).1 (st_cell ghc3 (c := 2448) (k := 36) (n := 0) (by decide +kernel)).2.1 (fun v4 ev4 rv4 => ?_)
    refine hd_if_le pkX20_act rfl (fun c5 => ?_) (fun c5 => ?_)
    · skip
      refine hd_lload pkX20_act rfl rfl ?_
      refine hd_lret pkX20_act rfl ?_
      subst eQ
      exact ⟨rfl, rfl, p109⟩
    · skip
      refine hd_lpush (z := 0) pkX20_act rfl ?_
      refine hd_goto pkX20_act rfl ?_
      refine hd_lret pkX20_act rfl ?_
      subst eQ
      exact ⟨rfl, rfl, p109⟩
  · exfalso
    omega
