/-! X13 by hand: its methods -/
set_option maxRecDepth 20000 in
set_option maxHeartbeats 8000000 in
theorem h_X13_go {h : MH} {fr to bound wo : Int} {π : Int → Int} (nr : NR13 (N13 h wo)) (w : WI13 (N13 h wo) π fr (ga h 2492) (ga h 2493)) (hf : 0 ≤ fr ∧ fr ≤ 33) (ht : 0 ≤ to ∧ to ≤ 33) (tm : ga h 2492 to < M50) (b1 : 1 ≤ bound ∧ bound ≤ 1125899906842624) (nb : NB13 h) (g : Str t13c r13c h) : MCal KX13_go yX13_go 0 0 [(2, ((2468 : Nat) : Int)), (0, fr), (0, to), (1, bound)] h (mRL fun v h' => Only [2490] h h' ∧ (1 ≤ v ∧ v ≤ bound) ∧ GO13 h h' wo fr to v) := by
  refine MCal.ofMW (Or.inl rfl) ⟨cp_X13, rfl⟩ (Nat.le_of_ble_eq_true rfl) ?_
  generalize eQ : (mRL fun v h' => Only [2490] h h' ∧ (1 ≤ v ∧ v ≤ bound) ∧ GO13 h h' wo fr to v : MO → MH → Prop) = Q
  change MW KX13_go Q 0 0 (pcA pgX13_go 0) [(0, (2, ((2468 : Nat) : Int))), (1, (0, fr)), (2, (0, to)), (3, (1, bound))] [] h
  refine hd_locI (i := 1) rfl (fun rfr => ?_)
  refine hd_locI (i := 2) rfl (fun rto => ?_)
  refine hd_locL (i := 3) rfl (fun rbound => ?_)
  obtain ⟨r, r0, r1⟩ := w.2.2.2
  refine hd_lload pkX13_go rfl rfl ?_
  refine hd_lstore pkX13_go rfl rfl ?_
  change MW _ _ _ _ _ [(5, (1, bound)), (0, (2, ((2468 : Nat) : Int))), (1, (0, fr)), (2, (0, to)), (3, (1, bound))] _ _
  refine hd_iload pkX13_go rfl rfl ?_
  refine hd_istore pkX13_go rfl rfl ?_
  change MW _ _ _ _ _ [(7, (0, to)), (5, (1, bound)), (0, (2, ((2468 : Nat) : Int))), (1, (0, fr)), (2, (0, to)), (3, (1, bound))] _ _
  have lp4 : ∀ (N4 : Nat) (ls v : Int), (1 ≤ ls ∧ ls ≤ bound) → (PL13 (N13 h wo) (ga h 2493) fr to v ls) → ((0 ≤ v ∧ v ≤ 33) ∧ ga h 2492 v < M50) → r v < (N4 : Int) → MW KX13_go Q 0 0 (pcA pgX13_go 4) [(0, (2, ((2468 : Nat) : Int))), (1, (0, fr)), (2, (0, to)), (3, (1, bound)), (5, (1, ls)), (7, (0, v))] [] h := by
    intro N4
    induction N4 with
    | zero => intro ls v l1 pl vb hm4; exfalso; have := r0 v; omega
    | succ N4 ih4 =>
      intro ls v l1 pl vb hm4
      refine hd_iload pkX13_go rfl rfl ?_
      refine hd_iload pkX13_go rfl rfl ?_
      refine hd_ic_eq pkX13_go rfl (fun c1 => ?_) (fun c1 => ?_)
      · skip
        obtain ⟨n, hn, pn, pr9⟩ := pl
        have hn : pt13 (N13 h wo) (ga h 2493) to n = fr := hn.symm.trans (by omega)
        refine hd_iload pkX13_go rfl rfl ?_
        refine hd_istore pkX13_go rfl rfl ?_
        change MW _ _ _ _ _ [(7, (0, to)), (0, (2, ((2468 : Nat) : Int))), (1, (0, fr)), (2, (0, to)), (3, (1, bound)), (5, (1, ls))] _ _
        have lp73 : ∀ (N73 : Nat) (v : Int) (hF : MH), Str t13c r13c hF → (Only [2490] h hF) → (PM13 (N13 h wo) (ga h 2493) to n ls (ga hF 2490) v) → ((0 ≤ v ∧ v ≤ 33) ∧ ga h 2492 v < M50) → r v < (N73 : Int) → MW KX13_go Q 0 0 (pcA pgX13_go 73) [(0, (2, ((2468 : Nat) : Int))), (1, (0, fr)), (2, (0, to)), (3, (1, bound)), (5, (1, ls)), (7, (0, v))] [] hF := by
          intro N73
          induction N73 with
          | zero => intro v hF g73 hO pm vb hm73; exfalso; have := r0 v; omega
          | succ N73 ih73 =>
            intro v hF g73 hO pm vb hm73
            refine hd_iload pkX13_go rfl rfl ?_
            refine hd_iload pkX13_go rfl rfl ?_
            refine hd_ic_eq pkX13_go rfl (fun c2 => ?_) (fun c2 => ?_)
            · skip
              refine hd_lload pkX13_go rfl rfl ?_
              refine hd_lret pkX13_go rfl ?_
              have ev : v = fr := by omega
              subst eQ
              refine ⟨rfl, rfl, hO, l1, n, pn, hn, pr9, ?_, ?_⟩
              · obtain ⟨m9, m1, m2, m3, m4⟩ := pm
                have : m9 = n := by
                  by_cases q : m9 = n
                  · exact q
                  · exact absurd (m2.symm.trans (ev.trans hn.symm)) (pn.dis w m9 n (by omega) (Nat.le_refl _))
                rw [← this]
                exact m3
              · obtain ⟨m9, m1, m2, m3, m4⟩ := pm
                intro u
                have := m4 u
                rw [ev] at this
                exact this
            · skip
              obtain ⟨bv, ebv⟩ : ∃ x : Int, x = ga h 2493 v := ⟨_, rfl⟩
              obtain ⟨bn, eo, pab, pam⟩ := w.at nr vb.1 vb.2 c2
              rw [← ebv] at bn eo pab pam
              have ebb : 0 ≤ eb13 bv ∧ eb13 bv < 140 := by have := eo.2.1; have := nr.1; omega
              have nbq := nb (eb13 bv) eo.2.1.1 eo.2.1.2
              have bvb : -141 ≤ bv ∧ bv ≤ 141 := by have := eb13_is bn; omega
              have rop : 0 < ro13 (N13 h wo) bv := eo.2.2.2.2.2.2
              have vne : v ≠ fr := c2
              have cut95 : ∀ (eb : Int), (eb = eb13 bv) → MW KX13_go Q 0 0 (pcA pgX13_go 95) [(0, (2, ((2468 : Nat) : Int))), (1, (0, fr)), (2, (0, to)), (3, (1, bound)), (5, (1, ls)), (7, (0, v))] [(0, eb)] hF := by
                intro eb eeb
                refine hd_istore pkX13_go rfl rfl ?_
                change MW _ _ _ _ _ [(8, (0, eb)), (0, (2, ((2468 : Nat) : Int))), (1, (0, fr)), (2, (0, to)), (3, (1, bound)), (5, (1, ls)), (7, (0, v))] _ _
                refine hd_aload pkX13_go rfl rfl (Int.natCast_nonneg _) ?_
                refine hd_getR (n := 2490) pkX13_go rfl (g73.cell 0 rfl).1 (g73.cell 0 rfl).2.1 (g73.ref 21 rfl) ?_
                refine hd_iload pkX13_go rfl rfl ?_
                refine hd_dup2 pkX13_go rfl rfl rfl ?_
                refine hd_lald (n := 140) pkX13_go rfl (g73.cell 22 rfl) (by omega) (by omega) (fun v3 ev3 rv3 => ?_)
                obtain ⟨un, ui⟩ := pm.un w pn hn vne
                rw [← ebv, ← eeb] at un
                have qv3 : ga h 2490 eb = v3 := by rw [ev3]; exact un.symm
                rw [← eeb] at nbq
                obtain ⟨i9, i1, i2⟩ := ui
                have rl := pr9 i9 i1
                rw [← i2, ← ebv] at rl
                have rl : ls ≤ (if 0 < bv then ga h 2488 (eb13 bv) - ga h 2490 (eb13 bv) else ga h 2490 (eb13 bv)) := rl
                rw [← eeb] at rl
                subst qv3
                have cut110 : ∀ (dl : Int), (dl = if 0 < bv then ls else -ls) → MW KX13_go Q 0 0 (pcA pgX13_go 110) [(0, (2, ((2468 : Nat) : Int))), (1, (0, fr)), (2, (0, to)), (3, (1, bound)), (5, (1, ls)), (7, (0, v)), (8, (0, eb))] [(1, dl), (1, (ga h 2490 eb)), (0, eb), (2, ((2490 : Nat) : Int))] hF := by
                  intro dl edl
                  refine hd_ladd pkX13_go rfl (by rw [edl]; split at rl <;> (rename_i q; first | rw [if_pos q] | rw [if_neg q]) <;> omega) ?_
                  refine hd_last (n := 140) pkX13_go rfl (g73.cell 22 rfl) (by decide) (by omega) (by omega) (fun hh4 ehh4 => ?_)
                  have ghh4 : Str t13c r13c hh4 := by rw [ehh4]; exact g73.setA rfl
                  have o2 : Only [2490] h hh4 := by rw [ehh4]; exact hO.set (by decide)
                  have f2 : ∀ g : Int, 0 ≤ g → ga hh4 2490 g = if g = eb13 (ga h 2493 v) then ga hF 2490 g + (if 0 < ga h 2493 v then ls else -ls) else ga hF 2490 g := fun g a => by
                    rw [ehh4, ga_sa _ _ _ (by omega) a, ← ebv, ← eeb, ← edl]
                    by_cases q : g = eb
                    · rw [if_pos q, if_pos q, q]; rw [show ga hF 2490 eb = ga h 2490 eb from un]
                    · rw [if_neg q, if_neg q]
                  have pm2 := pm.next w pn hn vne f2
                  have cut126 : ∀ (nx : Int), (nx = pa13 (N13 h wo) bv) → MW KX13_go Q 0 0 (pcA pgX13_go 126) [(0, (2, ((2468 : Nat) : Int))), (1, (0, fr)), (2, (0, to)), (3, (1, bound)), (5, (1, ls)), (7, (0, v)), (8, (0, eb))] [(0, nx)] hh4 := by
                    intro nx enx
                    refine hd_istore pkX13_go rfl rfl ?_
                    change MW _ _ _ _ _ [(7, (0, nx)), (0, (2, ((2468 : Nat) : Int))), (1, (0, fr)), (2, (0, to)), (3, (1, bound)), (5, (1, ls)), (8, (0, eb))] _ _
                    refine hd_goto pkX13_go rfl ?_
                    refine m_sub [(0, (2, ((2468 : Nat) : Int))), (1, (0, fr)), (2, (0, to)), (3, (1, bound)), (5, (1, ls)), (7, (0, nx))] (List.forall_mem_cons.mpr ⟨rfl, List.forall_mem_cons.mpr ⟨rfl, List.forall_mem_cons.mpr ⟨rfl, List.forall_mem_cons.mpr ⟨rfl, List.forall_mem_cons.mpr ⟨rfl, List.forall_mem_cons.mpr ⟨rfl, fun _ h => absurd h List.not_mem_nil⟩⟩⟩⟩⟩⟩) ?_
                    refine ih73  (nx) hh4 ghh4 ?_ ?_ ?_ ?_
                    · exact o2
                    · rw [enx, ebv]
                      exact pm2
                    · rw [enx]
                      exact ⟨pab, pam⟩
                    · have := r1 v vb.1.1 vb.1.2 (by rw [← ebv]; exact bn); rw [← ebv, ← enx] at this; have := r0 nx; omega
                  refine hd_aload pkX13_go rfl rfl (Int.natCast_nonneg _) ?_
                  refine hd_getR (n := 2493) pkX13_go rfl (ghh4.cell 0 rfl).1 (ghh4.cell 0 rfl).2.1 (ghh4.ref 24 rfl) ?_
                  refine hd_iload pkX13_go rfl rfl ?_
                  refine hd_iald (n := 34) pkX13_go rfl (ghh4.cell 25 rfl) (by omega) (by omega) (fun v5 ev5 rv5 => ?_)
                  have qv5 : bv = v5 := by rw [ev5, o2.ga (by decide)]; exact ebv
                  subst qv5
                  refine hd_if_le pkX13_go rfl (fun c6 => ?_) (fun c6 => ?_)
                  · skip
                    refine hd_aload pkX13_go rfl rfl (Int.natCast_nonneg _) ?_
                    refine hd_getR (n := 2487) pkX13_go rfl (ghh4.cell 0 rfl).1 (ghh4.cell 0 rfl).2.1 (ghh4.ref 18 rfl) ?_
                    refine hd_iload pkX13_go rfl rfl ?_
                    refine hd_iald (n := 140) pkX13_go rfl (ghh4.cell 19 rfl) (by omega) (by omega) (fun v7 ev7 rv7 => ?_)
                    have qv7 : ga h 2487 eb = v7 := by rw [ev7, o2.ga (by decide)]
                    subst qv7
                    refine cut126 ((ga h 2487 eb)) ?_
                    · show _ = (if 0 < bv then ga h 2486 (eb13 bv) else ga h 2487 (eb13 bv))
                      rw [← eeb]
                      split <;> omega
                  · skip
                    refine hd_aload pkX13_go rfl rfl (Int.natCast_nonneg _) ?_
                    refine hd_getR (n := 2486) pkX13_go rfl (ghh4.cell 0 rfl).1 (ghh4.cell 0 rfl).2.1 (ghh4.ref 17 rfl) ?_
                    refine hd_iload pkX13_go rfl rfl ?_
                    refine hd_iald (n := 140) pkX13_go rfl (ghh4.cell 18 rfl) (by omega) (by omega) (fun v8 ev8 rv8 => ?_)
                    have qv8 : ga h 2486 eb = v8 := by rw [ev8, o2.ga (by decide)]
                    subst qv8
                    refine hd_goto pkX13_go rfl ?_
                    refine cut126 ((ga h 2486 eb)) ?_
                    · show _ = (if 0 < bv then ga h 2486 (eb13 bv) else ga h 2487 (eb13 bv))
                      rw [← eeb]
                      split <;> omega
                refine hd_aload pkX13_go rfl rfl (Int.natCast_nonneg _) ?_
                refine hd_getR (n := 2493) pkX13_go rfl (g73.cell 0 rfl).1 (g73.cell 0 rfl).2.1 (g73.ref 24 rfl) ?_
                refine hd_iload pkX13_go rfl rfl ?_
                refine hd_iald (n := 34) pkX13_go rfl (g73.cell 25 rfl) (by omega) (by omega) (fun v9 ev9 rv9 => ?_)
                have qv9 : bv = v9 := by rw [ev9, hO.ga (by decide)]; exact ebv
                subst qv9
                refine hd_if_le pkX13_go rfl (fun c10 => ?_) (fun c10 => ?_)
                · skip
                  refine hd_lload pkX13_go rfl rfl ?_
                  refine hd_lneg pkX13_go rfl (by omega) ?_
                  refine m_sub [(0, (2, ((2468 : Nat) : Int))), (1, (0, fr)), (2, (0, to)), (3, (1, bound)), (5, (1, ls)), (7, (0, v)), (8, (0, eb))] (List.forall_mem_cons.mpr ⟨rfl, List.forall_mem_cons.mpr ⟨rfl, List.forall_mem_cons.mpr ⟨rfl, List.forall_mem_cons.mpr ⟨rfl, List.forall_mem_cons.mpr ⟨rfl, List.forall_mem_cons.mpr ⟨rfl, List.forall_mem_cons.mpr ⟨rfl, fun _ h => absurd h List.not_mem_nil⟩⟩⟩⟩⟩⟩⟩) ?_
                  refine cut110 ((-ls)) ?_
                  · split <;> omega
                · skip
                  refine hd_lload pkX13_go rfl rfl ?_
                  refine hd_goto pkX13_go rfl ?_
                  refine m_sub [(0, (2, ((2468 : Nat) : Int))), (1, (0, fr)), (2, (0, to)), (3, (1, bound)), (5, (1, ls)), (7, (0, v)), (8, (0, eb))] (List.forall_mem_cons.mpr ⟨rfl, List.forall_mem_cons.mpr ⟨rfl, List.forall_mem_cons.mpr ⟨rfl, List.forall_mem_cons.mpr ⟨rfl, List.forall_mem_cons.mpr ⟨rfl, List.forall_mem_cons.mpr ⟨rfl, List.forall_mem_cons.mpr ⟨rfl, fun _ h => absurd h List.not_mem_nil⟩⟩⟩⟩⟩⟩⟩) ?_
                  refine cut110 (ls) ?_
                  · split <;> omega
              refine hd_aload pkX13_go rfl rfl (Int.natCast_nonneg _) ?_
              refine hd_getR (n := 2493) pkX13_go rfl (g73.cell 0 rfl).1 (g73.cell 0 rfl).2.1 (g73.ref 24 rfl) ?_
              refine hd_iload pkX13_go rfl rfl ?_
              refine hd_iald (n := 34) pkX13_go rfl (g73.cell 25 rfl) (by omega) (by omega) (fun v11 ev11 rv11 => ?_)
              have qv11 : bv = v11 := by rw [ev11, hO.ga (by decide)]; exact ebv
              subst qv11
              refine hd_if_le pkX13_go rfl (fun c12 => ?_) (fun c12 => ?_)
              · skip
                refine hd_aload pkX13_go rfl rfl (Int.natCast_nonneg _) ?_
                refine hd_getR (n := 2493) pkX13_go rfl (g73.cell 0 rfl).1 (g73.cell 0 rfl).2.1 (g73.ref 24 rfl) ?_
                refine hd_iload pkX13_go rfl rfl ?_
                refine hd_iald (n := 34) pkX13_go rfl (g73.cell 25 rfl) (by omega) (by omega) (fun v13 ev13 rv13 => ?_)
                have qv13 : bv = v13 := by rw [ev13, hO.ga (by decide)]; exact ebv
                subst qv13
                refine hd_ineg pkX13_go rfl (by omega) ?_
                refine hd_ipush (z := 1) pkX13_go rfl ?_
                refine hd_isub pkX13_go rfl (by omega) ?_
                refine cut95 (((-bv) - 1)) ?_
                · unfold eb13
                  split <;> omega
              · skip
                refine hd_aload pkX13_go rfl rfl (Int.natCast_nonneg _) ?_
                refine hd_getR (n := 2493) pkX13_go rfl (g73.cell 0 rfl).1 (g73.cell 0 rfl).2.1 (g73.ref 24 rfl) ?_
                refine hd_iload pkX13_go rfl rfl ?_
                refine hd_iald (n := 34) pkX13_go rfl (g73.cell 25 rfl) (by omega) (by omega) (fun v14 ev14 rv14 => ?_)
                have qv14 : bv = v14 := by rw [ev14, hO.ga (by decide)]; exact ebv
                subst qv14
                refine hd_ipush (z := 1) pkX13_go rfl ?_
                refine hd_isub pkX13_go rfl (by omega) ?_
                refine hd_goto pkX13_go rfl ?_
                refine cut95 ((bv - 1)) ?_
                · unfold eb13
                  split <;> omega
        refine m_sub [(0, (2, ((2468 : Nat) : Int))), (1, (0, fr)), (2, (0, to)), (3, (1, bound)), (5, (1, ls)), (7, (0, to))] (List.forall_mem_cons.mpr ⟨rfl, List.forall_mem_cons.mpr ⟨rfl, List.forall_mem_cons.mpr ⟨rfl, List.forall_mem_cons.mpr ⟨rfl, List.forall_mem_cons.mpr ⟨rfl, List.forall_mem_cons.mpr ⟨rfl, fun _ h => absurd h List.not_mem_nil⟩⟩⟩⟩⟩⟩) ?_
        refine lp73 ((r (to)) + 1).toNat (to) h g ?_ ?_ ?_ ?_
        · exact Only.refl _ _
        · exact ⟨0, Nat.zero_le _, rfl, fun g _ => Or.inr (Or.inr ⟨fun i hi => by omega, rfl⟩), fun u => by show ex13 (N13 h wo) (ga h 2490) u = ex13 (N13 h wo) (ga h 2490) u + _ - _; omega⟩
        · exact ⟨ht, tm⟩
        · have := r0 to; omega
      · skip
        obtain ⟨bv, ebv⟩ : ∃ x : Int, x = ga h 2493 v := ⟨_, rfl⟩
        obtain ⟨bn, eo, pab, pam⟩ := w.at nr vb.1 vb.2 c1
        rw [← ebv] at bn eo pab pam
        have ebb : 0 ≤ eb13 bv ∧ eb13 bv < 140 := by have := eo.2.1; have := nr.1; omega
        have nbq := nb (eb13 bv) eo.2.1.1 eo.2.1.2
        have bvb : -141 ≤ bv ∧ bv ≤ 141 := by have := eb13_is bn; omega
        have rop : 0 < ro13 (N13 h wo) bv := eo.2.2.2.2.2.2
        have c6x : v ≠ fr := c1
        have cut26 : ∀ (eb : Int), (eb = eb13 bv) → MW KX13_go Q 0 0 (pcA pgX13_go 26) [(0, (2, ((2468 : Nat) : Int))), (1, (0, fr)), (2, (0, to)), (3, (1, bound)), (5, (1, ls)), (7, (0, v))] [(0, eb)] h := by
          intro eb eeb
          refine hd_istore pkX13_go rfl rfl ?_
          change MW _ _ _ _ _ [(8, (0, eb)), (0, (2, ((2468 : Nat) : Int))), (1, (0, fr)), (2, (0, to)), (3, (1, bound)), (5, (1, ls)), (7, (0, v))] _ _
          rw [← eeb] at nbq
          have cut46 : ∀ (ro : Int), (ro = ro13 (N13 h wo) bv) → MW KX13_go Q 0 0 (pcA pgX13_go 46) [(0, (2, ((2468 : Nat) : Int))), (1, (0, fr)), (2, (0, to)), (3, (1, bound)), (5, (1, ls)), (7, (0, v)), (8, (0, eb))] [(1, ro)] h := by
            intro ro ero
            refine hd_lstore pkX13_go rfl rfl ?_
            change MW _ _ _ _ _ [(9, (1, ro)), (0, (2, ((2468 : Nat) : Int))), (1, (0, fr)), (2, (0, to)), (3, (1, bound)), (5, (1, ls)), (7, (0, v)), (8, (0, eb))] _ _
            have cut54 : ∀ (mn : Int), (mn ≤ ls ∧ mn ≤ ro ∧ 1 ≤ mn) → MW KX13_go Q 0 0 (pcA pgX13_go 54) [(0, (2, ((2468 : Nat) : Int))), (1, (0, fr)), (2, (0, to)), (3, (1, bound)), (5, (1, ls)), (7, (0, v)), (8, (0, eb)), (9, (1, ro))] [(1, mn)] h := by
              intro mn emn
              refine hd_lstore pkX13_go rfl rfl ?_
              change MW _ _ _ _ _ [(5, (1, mn)), (0, (2, ((2468 : Nat) : Int))), (1, (0, fr)), (2, (0, to)), (3, (1, bound)), (7, (0, v)), (8, (0, eb)), (9, (1, ro))] _ _
              have cut69 : ∀ (nx : Int), (nx = pa13 (N13 h wo) bv) → MW KX13_go Q 0 0 (pcA pgX13_go 69) [(0, (2, ((2468 : Nat) : Int))), (1, (0, fr)), (2, (0, to)), (3, (1, bound)), (5, (1, mn)), (7, (0, v)), (8, (0, eb)), (9, (1, ro))] [(0, nx)] h := by
                intro nx enx
                refine hd_istore pkX13_go rfl rfl ?_
                change MW _ _ _ _ _ [(7, (0, nx)), (0, (2, ((2468 : Nat) : Int))), (1, (0, fr)), (2, (0, to)), (3, (1, bound)), (5, (1, mn)), (8, (0, eb)), (9, (1, ro))] _ _
                refine hd_goto pkX13_go rfl ?_
                refine m_sub [(0, (2, ((2468 : Nat) : Int))), (1, (0, fr)), (2, (0, to)), (3, (1, bound)), (5, (1, mn)), (7, (0, nx))] (List.forall_mem_cons.mpr ⟨rfl, List.forall_mem_cons.mpr ⟨rfl, List.forall_mem_cons.mpr ⟨rfl, List.forall_mem_cons.mpr ⟨rfl, List.forall_mem_cons.mpr ⟨rfl, List.forall_mem_cons.mpr ⟨rfl, fun _ h => absurd h List.not_mem_nil⟩⟩⟩⟩⟩⟩) ?_
                refine ih4  (mn) (nx) ?_ ?_ ?_ ?_
                · omega
                · rw [enx, ebv]
                  exact pl.next vb.1 c6x (by rw [← ebv]; exact bn) emn.1 (by rw [← ebv, ← ero]; exact emn.2.1)
                · rw [enx]
                  exact ⟨pab, pam⟩
                · have := r1 v vb.1.1 vb.1.2 (by rw [← ebv]; exact bn); rw [← ebv, ← enx] at this; have := r0 nx; omega
              refine hd_aload pkX13_go rfl rfl (Int.natCast_nonneg _) ?_
              refine hd_getR (n := 2493) pkX13_go rfl (g.cell 0 rfl).1 (g.cell 0 rfl).2.1 (g.ref 24 rfl) ?_
              refine hd_iload pkX13_go rfl rfl ?_
              refine hd_iald (n := 34) pkX13_go rfl (g.cell 25 rfl) (by omega) (by omega) (fun v15 ev15 rv15 => ?_)
              have qv15 : bv = v15 := by rw [ev15]; exact ebv
              subst qv15
              refine hd_if_le pkX13_go rfl (fun c16 => ?_) (fun c16 => ?_)
              · skip
                refine hd_aload pkX13_go rfl rfl (Int.natCast_nonneg _) ?_
                refine hd_getR (n := 2487) pkX13_go rfl (g.cell 0 rfl).1 (g.cell 0 rfl).2.1 (g.ref 18 rfl) ?_
                refine hd_iload pkX13_go rfl rfl ?_
                refine hd_iald (n := 140) pkX13_go rfl (g.cell 19 rfl) (by omega) (by omega) (fun v17 ev17 rv17 => ?_)
                have qv17 : ga h 2487 eb = v17 := ev17.symm
                subst qv17
                refine m_sub [(0, (2, ((2468 : Nat) : Int))), (1, (0, fr)), (2, (0, to)), (3, (1, bound)), (5, (1, mn)), (7, (0, v)), (8, (0, eb)), (9, (1, ro))] (List.forall_mem_cons.mpr ⟨rfl, List.forall_mem_cons.mpr ⟨rfl, List.forall_mem_cons.mpr ⟨rfl, List.forall_mem_cons.mpr ⟨rfl, List.forall_mem_cons.mpr ⟨rfl, List.forall_mem_cons.mpr ⟨rfl, List.forall_mem_cons.mpr ⟨rfl, List.forall_mem_cons.mpr ⟨rfl, fun _ h => absurd h List.not_mem_nil⟩⟩⟩⟩⟩⟩⟩⟩) ?_
                refine cut69 ((ga h 2487 eb)) ?_
                · show _ = (if 0 < bv then ga h 2486 (eb13 bv) else ga h 2487 (eb13 bv))
                  rw [← eeb]
                  split <;> omega
              · skip
                refine hd_aload pkX13_go rfl rfl (Int.natCast_nonneg _) ?_
                refine hd_getR (n := 2486) pkX13_go rfl (g.cell 0 rfl).1 (g.cell 0 rfl).2.1 (g.ref 17 rfl) ?_
                refine hd_iload pkX13_go rfl rfl ?_
                refine hd_iald (n := 140) pkX13_go rfl (g.cell 18 rfl) (by omega) (by omega) (fun v18 ev18 rv18 => ?_)
                have qv18 : ga h 2486 eb = v18 := ev18.symm
                subst qv18
                refine hd_goto pkX13_go rfl ?_
                refine m_sub [(0, (2, ((2468 : Nat) : Int))), (1, (0, fr)), (2, (0, to)), (3, (1, bound)), (5, (1, mn)), (7, (0, v)), (8, (0, eb)), (9, (1, ro))] (List.forall_mem_cons.mpr ⟨rfl, List.forall_mem_cons.mpr ⟨rfl, List.forall_mem_cons.mpr ⟨rfl, List.forall_mem_cons.mpr ⟨rfl, List.forall_mem_cons.mpr ⟨rfl, List.forall_mem_cons.mpr ⟨rfl, List.forall_mem_cons.mpr ⟨rfl, List.forall_mem_cons.mpr ⟨rfl, fun _ h => absurd h List.not_mem_nil⟩⟩⟩⟩⟩⟩⟩⟩) ?_
                refine cut69 ((ga h 2486 eb)) ?_
                · show _ = (if 0 < bv then ga h 2486 (eb13 bv) else ga h 2487 (eb13 bv))
                  rw [← eeb]
                  split <;> omega
            refine hd_lload pkX13_go rfl rfl ?_
            refine hd_lload pkX13_go rfl rfl ?_
            refine hd_lc_ge pkX13_go rfl (fun c19 => ?_) (fun c19 => ?_)
            · skip
              refine hd_lload pkX13_go rfl rfl ?_
              refine m_sub [(0, (2, ((2468 : Nat) : Int))), (1, (0, fr)), (2, (0, to)), (3, (1, bound)), (5, (1, ls)), (7, (0, v)), (8, (0, eb)), (9, (1, ro))] (List.forall_mem_cons.mpr ⟨rfl, List.forall_mem_cons.mpr ⟨rfl, List.forall_mem_cons.mpr ⟨rfl, List.forall_mem_cons.mpr ⟨rfl, List.forall_mem_cons.mpr ⟨rfl, List.forall_mem_cons.mpr ⟨rfl, List.forall_mem_cons.mpr ⟨rfl, List.forall_mem_cons.mpr ⟨rfl, fun _ h => absurd h List.not_mem_nil⟩⟩⟩⟩⟩⟩⟩⟩) ?_
              refine cut54 (ls) ?_
              · omega
            · skip
              refine hd_lload pkX13_go rfl rfl ?_
              refine hd_goto pkX13_go rfl ?_
              refine m_sub [(0, (2, ((2468 : Nat) : Int))), (1, (0, fr)), (2, (0, to)), (3, (1, bound)), (5, (1, ls)), (7, (0, v)), (8, (0, eb)), (9, (1, ro))] (List.forall_mem_cons.mpr ⟨rfl, List.forall_mem_cons.mpr ⟨rfl, List.forall_mem_cons.mpr ⟨rfl, List.forall_mem_cons.mpr ⟨rfl, List.forall_mem_cons.mpr ⟨rfl, List.forall_mem_cons.mpr ⟨rfl, List.forall_mem_cons.mpr ⟨rfl, List.forall_mem_cons.mpr ⟨rfl, fun _ h => absurd h List.not_mem_nil⟩⟩⟩⟩⟩⟩⟩⟩) ?_
              refine cut54 (ro) ?_
              · omega
          refine hd_aload pkX13_go rfl rfl (Int.natCast_nonneg _) ?_
          refine hd_getR (n := 2493) pkX13_go rfl (g.cell 0 rfl).1 (g.cell 0 rfl).2.1 (g.ref 24 rfl) ?_
          refine hd_iload pkX13_go rfl rfl ?_
          refine hd_iald (n := 34) pkX13_go rfl (g.cell 25 rfl) (by omega) (by omega) (fun v20 ev20 rv20 => ?_)
          have qv20 : bv = v20 := by rw [ev20]; exact ebv
          subst qv20
          refine hd_if_le pkX13_go rfl (fun c21 => ?_) (fun c21 => ?_)
          · skip
            refine hd_aload pkX13_go rfl rfl (Int.natCast_nonneg _) ?_
            refine hd_getR (n := 2490) pkX13_go rfl (g.cell 0 rfl).1 (g.cell 0 rfl).2.1 (g.ref 21 rfl) ?_
            refine hd_iload pkX13_go rfl rfl ?_
            refine hd_lald (n := 140) pkX13_go rfl (g.cell 22 rfl) (by omega) (by omega) (fun v22 ev22 rv22 => ?_)
            have qv22 : ga h 2490 eb = v22 := ev22.symm
            subst qv22
            refine m_sub [(0, (2, ((2468 : Nat) : Int))), (1, (0, fr)), (2, (0, to)), (3, (1, bound)), (5, (1, ls)), (7, (0, v)), (8, (0, eb))] (List.forall_mem_cons.mpr ⟨rfl, List.forall_mem_cons.mpr ⟨rfl, List.forall_mem_cons.mpr ⟨rfl, List.forall_mem_cons.mpr ⟨rfl, List.forall_mem_cons.mpr ⟨rfl, List.forall_mem_cons.mpr ⟨rfl, List.forall_mem_cons.mpr ⟨rfl, fun _ h => absurd h List.not_mem_nil⟩⟩⟩⟩⟩⟩⟩) ?_
            refine cut46 ((ga h 2490 eb)) ?_
            · show _ = (if 0 < bv then ga h 2488 (eb13 bv) - ga h 2490 (eb13 bv) else ga h 2490 (eb13 bv))
              rw [← eeb]
              split <;> omega
          · skip
            refine hd_aload pkX13_go rfl rfl (Int.natCast_nonneg _) ?_
            refine hd_getR (n := 2488) pkX13_go rfl (g.cell 0 rfl).1 (g.cell 0 rfl).2.1 (g.ref 19 rfl) ?_
            refine hd_iload pkX13_go rfl rfl ?_
            refine hd_lald (n := 140) pkX13_go rfl (g.cell 20 rfl) (by omega) (by omega) (fun v23 ev23 rv23 => ?_)
            have qv23 : ga h 2488 eb = v23 := ev23.symm
            subst qv23
            refine hd_aload pkX13_go rfl rfl (Int.natCast_nonneg _) ?_
            refine hd_getR (n := 2490) pkX13_go rfl (g.cell 0 rfl).1 (g.cell 0 rfl).2.1 (g.ref 21 rfl) ?_
            refine hd_iload pkX13_go rfl rfl ?_
            refine hd_lald (n := 140) pkX13_go rfl (g.cell 22 rfl) (by omega) (by omega) (fun v24 ev24 rv24 => ?_)
            have qv24 : ga h 2490 eb = v24 := ev24.symm
            subst qv24
            refine hd_lsub pkX13_go rfl (by omega) ?_
            refine hd_goto pkX13_go rfl ?_
            refine m_sub [(0, (2, ((2468 : Nat) : Int))), (1, (0, fr)), (2, (0, to)), (3, (1, bound)), (5, (1, ls)), (7, (0, v)), (8, (0, eb))] (List.forall_mem_cons.mpr ⟨rfl, List.forall_mem_cons.mpr ⟨rfl, List.forall_mem_cons.mpr ⟨rfl, List.forall_mem_cons.mpr ⟨rfl, List.forall_mem_cons.mpr ⟨rfl, List.forall_mem_cons.mpr ⟨rfl, List.forall_mem_cons.mpr ⟨rfl, fun _ h => absurd h List.not_mem_nil⟩⟩⟩⟩⟩⟩⟩) ?_
            refine cut46 (((ga h 2488 eb) - (ga h 2490 eb))) ?_
            · show _ = (if 0 < bv then ga h 2488 (eb13 bv) - ga h 2490 (eb13 bv) else ga h 2490 (eb13 bv))
              rw [← eeb]
              split <;> omega
        refine hd_aload pkX13_go rfl rfl (Int.natCast_nonneg _) ?_
        refine hd_getR (n := 2493) pkX13_go rfl (g.cell 0 rfl).1 (g.cell 0 rfl).2.1 (g.ref 24 rfl) ?_
        refine hd_iload pkX13_go rfl rfl ?_
        refine hd_iald (n := 34) pkX13_go rfl (g.cell 25 rfl) (by omega) (by omega) (fun v25 ev25 rv25 => ?_)
        have qv25 : bv = v25 := by rw [ev25]; exact ebv
        subst qv25
        refine hd_if_le pkX13_go rfl (fun c26 => ?_) (fun c26 => ?_)
        · skip
          refine hd_aload pkX13_go rfl rfl (Int.natCast_nonneg _) ?_
          refine hd_getR (n := 2493) pkX13_go rfl (g.cell 0 rfl).1 (g.cell 0 rfl).2.1 (g.ref 24 rfl) ?_
          refine hd_iload pkX13_go rfl rfl ?_
          refine hd_iald (n := 34) pkX13_go rfl (g.cell 25 rfl) (by omega) (by omega) (fun v27 ev27 rv27 => ?_)
          have qv27 : bv = v27 := by rw [ev27]; exact ebv
          subst qv27
          refine hd_ineg pkX13_go rfl (by omega) ?_
          refine hd_ipush (z := 1) pkX13_go rfl ?_
          refine hd_isub pkX13_go rfl (by omega) ?_
          refine cut26 (((-bv) - 1)) ?_
          · unfold eb13
            split <;> omega
        · skip
          refine hd_aload pkX13_go rfl rfl (Int.natCast_nonneg _) ?_
          refine hd_getR (n := 2493) pkX13_go rfl (g.cell 0 rfl).1 (g.cell 0 rfl).2.1 (g.ref 24 rfl) ?_
          refine hd_iload pkX13_go rfl rfl ?_
          refine hd_iald (n := 34) pkX13_go rfl (g.cell 25 rfl) (by omega) (by omega) (fun v28 ev28 rv28 => ?_)
          have qv28 : bv = v28 := by rw [ev28]; exact ebv
          subst qv28
          refine hd_ipush (z := 1) pkX13_go rfl ?_
          refine hd_isub pkX13_go rfl (by omega) ?_
          refine hd_goto pkX13_go rfl ?_
          refine cut26 ((bv - 1)) ?_
          · unfold eb13
            split <;> omega
  refine m_sub [(0, (2, ((2468 : Nat) : Int))), (1, (0, fr)), (2, (0, to)), (3, (1, bound)), (5, (1, bound)), (7, (0, to))] (List.forall_mem_cons.mpr ⟨rfl, List.forall_mem_cons.mpr ⟨rfl, List.forall_mem_cons.mpr ⟨rfl, List.forall_mem_cons.mpr ⟨rfl, List.forall_mem_cons.mpr ⟨rfl, List.forall_mem_cons.mpr ⟨rfl, fun _ h => absurd h List.not_mem_nil⟩⟩⟩⟩⟩⟩) ?_
  refine lp4 ((r (to)) + 1).toNat (bound) (to) ?_ ?_ ?_ ?_
  · omega
  · exact ⟨0, rfl, fun i hi => by omega, fun i hi => by omega⟩
  · exact ⟨ht, tm⟩
  · have := r0 to; omega
