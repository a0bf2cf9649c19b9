set_option maxRecDepth 20000 in
set_option maxHeartbeats 8000000 in
theorem h_X14_readBeam {h : MH} {k : Int} (hk : 0 ≤ k ∧ k < 3) (ha : 0 ≤ ga h 2495 20 ∧ ga h 2495 20 ≤ ga h 2495 10) (hz : ga h 2495 10 ≤ 50) (g : Str t14 r14 h) : MCal KX14_readBeam yX14_readBeam 0 0 [(2, ((2495 : Nat) : Int)), (0, k)] h (mRI fun v h' => (v = 0 ∨ (v = 1 ∧ (1 ≤ ga h' 2509 k ∧ ga h' 2509 k ≤ 12) ∧ (1 ≤ ga h' 2510 k ∧ ga h' 2510 k ≤ 12))) ∧ RF h h' ∧ (∀ j : Int, 0 ≤ j → j ≠ k → ga h' 2509 j = ga h 2509 j ∧ ga h' 2510 j = ga h 2510 j) ∧ Str t14 r14 h') := by
  refine MCal.ofMW (Or.inl rfl) ⟨cp_X14, rfl⟩ (Nat.le_of_ble_eq_true rfl) ?_
  generalize eQ : (mRI fun v h' => (v = 0 ∨ (v = 1 ∧ (1 ≤ ga h' 2509 k ∧ ga h' 2509 k ≤ 12) ∧ (1 ≤ ga h' 2510 k ∧ ga h' 2510 k ≤ 12))) ∧ RF h h' ∧ (∀ j : Int, 0 ≤ j → j ≠ k → ga h' 2509 j = ga h 2509 j ∧ ga h' 2510 j = ga h 2510 j) ∧ Str t14 r14 h' : MO → MH → Prop) = Q
  change MW KX14_readBeam Q 0 0 (pcA pgX14_readBeam 0) [(0, (2, ((2495 : Nat) : Int))), (1, (0, k))] [] h
  refine hd_locI (i := 1) rfl (fun rk => ?_)
  obtain ⟨z0, hz0⟩ : ∃ x : Int, x = ga h 2495 10 := ⟨_, rfl⟩
  have hz1 : z0 ≤ 50 := by rw [hz0]; exact hz
  have rf : RF h h := RF.refl ha
  have nl : ∀ j : Int, 0 ≤ j → j ≠ k → ga h 2509 j = ga h 2509 j ∧ ga h 2510 j = ga h 2510 j := fun _ _ _ => ⟨rfl, rfl⟩
  refine hd_aload pkX14_readBeam rfl rfl (Int.natCast_nonneg _) ?_
  refine hd_getR (n := 2513) pkX14_readBeam rfl (g.cell 0 rfl).1 (g.cell 0 rfl).2.1 (g.ref 17 rfl) ?_
  refine hd_ipush (z := 2) pkX14_readBeam rfl ?_
  refine hd_iload pkX14_readBeam rfl rfl ?_
  refine hd_imul pkX14_readBeam rfl (by omega) ?_
  refine hd_aload pkX14_readBeam rfl rfl (Int.natCast_nonneg _) ?_
  have hA9 := rf.2.2
  have hZ9 : ga h 2495 10 ≤ 50 := by rw [rf.2.1 10 (by decide) (by decide)]; exact hz
  refine hd_callV pkX14_readBeam rfl (q := (KX14_sign, yX14_sign, 14, 0, 0)) rfl rfl rfl (As := []) (rest := [(0, (2 * k)), (2, ((2513 : Nat) : Int))]) (c := 2495) rfl rfl (Nat.le_of_ble_eq_true rfl) (g.cell 0 rfl).1 (g.cell 0 rfl).2.1 (h_X14_sign hA9 hZ9 g) (hd_bI (fun cs hc1 psg => ?_))
  obtain ⟨psg, ehc1⟩ := psg
  replace ehc1 := ehc1.symm
  subst ehc1
  have cut12 : ∀ (hv : Int), ((hv = 1 ∧ ga h 2495 20 < ga h 2495 10) ∨ hv = 0) → MW KX14_readBeam Q 0 0 (pcA pgX14_readBeam 12) [(0, (2, ((2495 : Nat) : Int))), (1, (0, k))] [(0, hv), (0, (2 * k)), (2, ((2513 : Nat) : Int))] h := by
    intro hv hvv
    refine hd_zast (n := 6) pkX14_readBeam rfl (g.cell 18 rfl) (by decide) (by omega) (by omega) (by omega) (fun hh2 ehh2 => ?_)
    have ghh2 : Str t14 r14 hh2 := by rw [ehh2]; exact g.setA rfl
    have rf := rf.cel ehh2 (by decide) (by decide)
    have nl := fun (j : Int) (j0 : 0 ≤ j) (j1 : j ≠ k) => And.intro ((((Only.wr ehh2)).ga (d := 2509) (by decide) j).trans (nl j j0 j1).1) ((((Only.wr ehh2)).ga (d := 2510) (by decide) j).trans (nl j j0 j1).2)
    have ehv : ga hh2 2513 (2 * k) = hv := (ga_wr ehh2 (by omega) (by omega)).trans (if_pos rfl)
    have bhv : (hv = 1 ∧ ga hh2 2495 20 < ga hh2 2495 10) ∨ hv = 0 := by
      rw [(Only.wr ehh2).ga (d := 2495) (by decide), (Only.wr ehh2).ga (d := 2495) (by decide)]
      exact hvv
    refine hd_aload pkX14_readBeam rfl rfl (Int.natCast_nonneg _) ?_
    refine hd_dup pkX14_readBeam rfl rfl ?_
    refine hd_getI pkX14_readBeam rfl (ghh2.cell 0 rfl).1 (ghh2.cell 0 rfl).2.1 (fun v3 ev3 rv3 => ?_)
    have z9 := rf.2.1 10 (by decide) (by decide)
    obtain ⟨an, han⟩ : ∃ x : Int, x = ga hh2 2495 20 := ⟨_, rfl⟩
    have hab : 0 ≤ an ∧ an ≤ z0 := by rw [han, hz0, ← z9]; exact rf.2.2
    have qv3 : an = v3 := by rw [ev3]; exact han
    subst qv3
    refine hd_aload pkX14_readBeam rfl rfl (Int.natCast_nonneg _) ?_
    refine hd_getR (n := 2513) pkX14_readBeam rfl (ghh2.cell 0 rfl).1 (ghh2.cell 0 rfl).2.1 (ghh2.ref 17 rfl) ?_
    refine hd_ipush (z := 2) pkX14_readBeam rfl ?_
    refine hd_iload pkX14_readBeam rfl rfl ?_
    refine hd_imul pkX14_readBeam rfl (by omega) ?_
    refine hd_zald (n := 6) pkX14_readBeam rfl (ghh2.cell 18 rfl) (by omega) (by omega) (fun v4 ev4 rv4 => ?_)
    have qv4 : hv = v4 := by rw [ev4]; exact ehv.symm
    subst qv4
    have cut26 : ∀ (dhv : Int), ((dhv = 1 ∧ hv = 1) ∨ dhv = 0) → MW KX14_readBeam Q 0 0 (pcA pgX14_readBeam 26) [(0, (2, ((2495 : Nat) : Int))), (1, (0, k))] [(0, dhv), (0, an), (2, ((2495 : Nat) : Int))] hh2 := by
      intro dhv dhvv
      refine hd_iadd pkX14_readBeam rfl (by omega) ?_
      refine hd_putI pkX14_readBeam rfl (ghh2.cell 0 rfl).1 (ghh2.cell 0 rfl).2.1 (fun hh5 ehh5 => ?_)
      have ghh5 : Str t14 r14 hh5 := by rw [ehh5]; exact ghh2.setF rfl
      have bz9 : an < z0 ∨ hv = 0 := by
        rcases bhv with ⟨_, q⟩ | q
        · exact Or.inl (by rw [han, hz0, ← z9]; exact q)
        · exact Or.inr q
      have rf := rf.at ehh5 (by rw [z9, ← hz0]; omega)
      have nl := fun (j : Int) (j0 : 0 ≤ j) (j1 : j ≠ k) => And.intro ((((Only.wr ehh5)).ga (d := 2509) (by decide) j).trans (nl j j0 j1).1) ((((Only.wr ehh5)).ga (d := 2510) (by decide) j).trans (nl j j0 j1).2)
      refine hd_aload pkX14_readBeam rfl rfl (Int.natCast_nonneg _) ?_
      refine hd_getR (n := 2509) pkX14_readBeam rfl (ghh5.cell 0 rfl).1 (ghh5.cell 0 rfl).2.1 (ghh5.ref 13 rfl) ?_
      refine hd_iload pkX14_readBeam rfl rfl ?_
      refine hd_aload pkX14_readBeam rfl rfl (Int.natCast_nonneg _) ?_
      have hA9 := rf.2.2
      have hZ9 : ga hh5 2495 10 ≤ 50 := by rw [rf.2.1 10 (by decide) (by decide)]; exact hz
      refine hd_callV pkX14_readBeam rfl (q := (KX14_readNumber, yX14_readNumber, 14, 0, 0)) rfl rfl rfl (As := []) (rest := [(0, k), (2, ((2509 : Nat) : Int))]) (c := 2495) rfl rfl (Nat.le_of_ble_eq_true rfl) (ghh5.cell 0 rfl).1 (ghh5.cell 0 rfl).2.1 (h_X14_readNumber hA9 hZ9 ghh5) (hd_bI (fun rl hc6 pn => ?_))
      have ghc6 : Str t14 r14 hc6 := pn.2.2.2
      have rf := rf.trans pn.2.1
      have rlb := pn.1
      have nl := fun (j : Int) (j0 : 0 ≤ j) (j1 : j ≠ k) => And.intro (((pn.2.2.1).ga (d := 2509) (by decide) j).trans (nl j j0 j1).1) (((pn.2.2.1).ga (d := 2510) (by decide) j).trans (nl j j0 j1).2)
      refine hd_iast (n := 3) pkX14_readBeam rfl (ghc6.cell 14 rfl) (by decide) (by omega) (by omega) (fun hh7 ehh7 => ?_)
      have ghh7 : Str t14 r14 hh7 := by rw [ehh7]; exact ghc6.setA rfl
      have rf := rf.cel ehh7 (by decide) (by decide)
      have nl := fun (j : Int) (j0 : 0 ≤ j) (j1 : j ≠ k) => And.intro (((ga_wr ehh7 hk.1 j0).trans (if_neg j1)).trans (nl j j0 j1).1) (((Only.wr ehh7).ga (d := 2510) (by decide) j).trans (nl j j0 j1).2)
      have el : ga hh7 2509 k = rl := (ga_wr ehh7 hk.1 hk.1).trans (if_pos rfl)
      refine hd_aload pkX14_readBeam rfl rfl (Int.natCast_nonneg _) ?_
      refine hd_getR (n := 2509) pkX14_readBeam rfl (ghh7.cell 0 rfl).1 (ghh7.cell 0 rfl).2.1 (ghh7.ref 13 rfl) ?_
      refine hd_iload pkX14_readBeam rfl rfl ?_
      refine hd_iald (n := 3) pkX14_readBeam rfl (ghh7.cell 14 rfl) (by omega) (by omega) (fun v8 ev8 rv8 => ?_)
      have qv8 : rl = v8 := by rw [ev8]; exact el.symm
      subst qv8
      have cut43 : ∀ (_ : True), MW KX14_readBeam Q 0 0 (pcA pgX14_readBeam 43) [(0, (2, ((2495 : Nat) : Int))), (1, (0, k))] [] hh7 := by
        intro _
        refine hd_ipush (z := 0) pkX14_readBeam rfl ?_
        refine hd_zret pkX14_readBeam rfl (by omega) ?_
        subst eQ
        exact ⟨rfl, rfl, Or.inl rfl, rf, nl, ghh7⟩
      refine hd_if_eq pkX14_readBeam rfl (fun c9 => ?_) (fun c9 => ?_)
      · skip
        refine cut43 trivial
      · skip
        refine hd_aload pkX14_readBeam rfl rfl (Int.natCast_nonneg _) ?_
        have hA9 := rf.2.2
        have hZ9 : ga hh7 2495 10 ≤ 50 := by rw [rf.2.1 10 (by decide) (by decide)]; exact hz
        refine hd_callV pkX14_readBeam rfl (q := (KX14_sign, yX14_sign, 14, 0, 0)) rfl rfl rfl (As := []) (rest := []) (c := 2495) rfl rfl (Nat.le_of_ble_eq_true rfl) (ghh7.cell 0 rfl).1 (ghh7.cell 0 rfl).2.1 (h_X14_sign hA9 hZ9 ghh7) (hd_bI (fun cs hc10 psg => ?_))
        obtain ⟨psg, ehc10⟩ := psg
        replace ehc10 := ehc10.symm
        subst ehc10
        refine hd_ipush (z := 120) pkX14_readBeam rfl ?_
        refine hd_ic_eq pkX14_readBeam rfl (fun c11 => ?_) (fun c11 => ?_)
        · skip
          refine hd_aload pkX14_readBeam rfl rfl (Int.natCast_nonneg _) ?_
          refine hd_dup pkX14_readBeam rfl rfl ?_
          refine hd_getI pkX14_readBeam rfl (ghh7.cell 0 rfl).1 (ghh7.cell 0 rfl).2.1 (fun v12 ev12 rv12 => ?_)
          have z9 := rf.2.1 10 (by decide) (by decide)
          obtain ⟨an, han⟩ : ∃ x : Int, x = ga hh7 2495 20 := ⟨_, rfl⟩
          have hab : 0 ≤ an ∧ an ≤ z0 := by rw [han, hz0, ← z9]; exact rf.2.2
          have qv12 : an = v12 := by rw [ev12]; exact han
          have bz9 : an < z0 := by rw [han, hz0, ← z9]; exact psg.resolve_right (by omega)
          subst qv12
          refine hd_ipush (z := 1) pkX14_readBeam rfl ?_
          refine hd_iadd pkX14_readBeam rfl (by omega) ?_
          refine hd_putI pkX14_readBeam rfl (ghh7.cell 0 rfl).1 (ghh7.cell 0 rfl).2.1 (fun hh13 ehh13 => ?_)
          have ghh13 : Str t14 r14 hh13 := by rw [ehh13]; exact ghh7.setF rfl
          have rf := rf.at ehh13 (by rw [z9, ← hz0]; omega)
          have nl := fun (j : Int) (j0 : 0 ≤ j) (j1 : j ≠ k) => And.intro ((((Only.wr ehh13)).ga (d := 2509) (by decide) j).trans (nl j j0 j1).1) ((((Only.wr ehh13)).ga (d := 2510) (by decide) j).trans (nl j j0 j1).2)
          have el := (((Only.wr ehh13)).ga (d := 2509) (by decide) _).trans el
          refine hd_aload pkX14_readBeam rfl rfl (Int.natCast_nonneg _) ?_
          refine hd_getR (n := 2510) pkX14_readBeam rfl (ghh13.cell 0 rfl).1 (ghh13.cell 0 rfl).2.1 (ghh13.ref 14 rfl) ?_
          refine hd_iload pkX14_readBeam rfl rfl ?_
          refine hd_aload pkX14_readBeam rfl rfl (Int.natCast_nonneg _) ?_
          have hA9 := rf.2.2
          have hZ9 : ga hh13 2495 10 ≤ 50 := by rw [rf.2.1 10 (by decide) (by decide)]; exact hz
          refine hd_callV pkX14_readBeam rfl (q := (KX14_readNumber, yX14_readNumber, 14, 0, 0)) rfl rfl rfl (As := []) (rest := [(0, k), (2, ((2510 : Nat) : Int))]) (c := 2495) rfl rfl (Nat.le_of_ble_eq_true rfl) (ghh13.cell 0 rfl).1 (ghh13.cell 0 rfl).2.1 (h_X14_readNumber hA9 hZ9 ghh13) (hd_bI (fun rs hc14 pn => ?_))
          have ghc14 : Str t14 r14 hc14 := pn.2.2.2
          have rf := rf.trans pn.2.1
          have rsb := pn.1
          have nl := fun (j : Int) (j0 : 0 ≤ j) (j1 : j ≠ k) => And.intro (((pn.2.2.1).ga (d := 2509) (by decide) j).trans (nl j j0 j1).1) (((pn.2.2.1).ga (d := 2510) (by decide) j).trans (nl j j0 j1).2)
          have el := ((pn.2.2.1).ga (d := 2509) (by decide) _).trans el
          refine hd_iast (n := 3) pkX14_readBeam rfl (ghc14.cell 15 rfl) (by decide) (by omega) (by omega) (fun hh15 ehh15 => ?_)
          have ghh15 : Str t14 r14 hh15 := by rw [ehh15]; exact ghc14.setA rfl
          have rf := rf.cel ehh15 (by decide) (by decide)
          have nl := fun (j : Int) (j0 : 0 ≤ j) (j1 : j ≠ k) => And.intro (((Only.wr ehh15).ga (d := 2509) (by decide) j).trans (nl j j0 j1).1) (((ga_wr ehh15 hk.1 j0).trans (if_neg j1)).trans (nl j j0 j1).2)
          have el := ((Only.wr ehh15).ga (d := 2509) (by decide) _).trans el
          have es : ga hh15 2510 k = rs := (ga_wr ehh15 hk.1 hk.1).trans (if_pos rfl)
          refine hd_aload pkX14_readBeam rfl rfl (Int.natCast_nonneg _) ?_
          refine hd_getR (n := 2510) pkX14_readBeam rfl (ghh15.cell 0 rfl).1 (ghh15.cell 0 rfl).2.1 (ghh15.ref 14 rfl) ?_
          refine hd_iload pkX14_readBeam rfl rfl ?_
          refine hd_iald (n := 3) pkX14_readBeam rfl (ghh15.cell 15 rfl) (by omega) (by omega) (fun v16 ev16 rv16 => ?_)
          have qv16 : rs = v16 := by rw [ev16]; exact es.symm
          subst qv16
          refine hd_if_ne pkX14_readBeam rfl (fun c17 => ?_) (fun c17 => ?_)
          · skip
            refine hd_aload pkX14_readBeam rfl rfl (Int.natCast_nonneg _) ?_
            refine hd_getR (n := 2513) pkX14_readBeam rfl (ghh15.cell 0 rfl).1 (ghh15.cell 0 rfl).2.1 (ghh15.ref 17 rfl) ?_
            refine hd_ipush (z := 2) pkX14_readBeam rfl ?_
            refine hd_iload pkX14_readBeam rfl rfl ?_
            refine hd_imul pkX14_readBeam rfl (by omega) ?_
            refine hd_ipush (z := 1) pkX14_readBeam rfl ?_
            refine hd_iadd pkX14_readBeam rfl (by omega) ?_
            refine hd_aload pkX14_readBeam rfl rfl (Int.natCast_nonneg _) ?_
            have hA9 := rf.2.2
            have hZ9 : ga hh15 2495 10 ≤ 50 := by rw [rf.2.1 10 (by decide) (by decide)]; exact hz
            refine hd_callV pkX14_readBeam rfl (q := (KX14_sign, yX14_sign, 14, 0, 0)) rfl rfl rfl (As := []) (rest := [(0, ((2 * k) + 1)), (2, ((2513 : Nat) : Int))]) (c := 2495) rfl rfl (Nat.le_of_ble_eq_true rfl) (ghh15.cell 0 rfl).1 (ghh15.cell 0 rfl).2.1 (h_X14_sign hA9 hZ9 ghh15) (hd_bI (fun cs hc18 psg => ?_))
            obtain ⟨psg, ehc18⟩ := psg
            replace ehc18 := ehc18.symm
            subst ehc18
            have cut78 : ∀ (hw : Int), ((hw = 1 ∧ ga hh15 2495 20 < ga hh15 2495 10) ∨ hw = 0) → MW KX14_readBeam Q 0 0 (pcA pgX14_readBeam 78) [(0, (2, ((2495 : Nat) : Int))), (1, (0, k))] [(0, hw), (0, ((2 * k) + 1)), (2, ((2513 : Nat) : Int))] hh15 := by
              intro hw hwv
              refine hd_zast (n := 6) pkX14_readBeam rfl (ghh15.cell 18 rfl) (by decide) (by omega) (by omega) (by omega) (fun hh19 ehh19 => ?_)
              have ghh19 : Str t14 r14 hh19 := by rw [ehh19]; exact ghh15.setA rfl
              have rf := rf.cel ehh19 (by decide) (by decide)
              have nl := fun (j : Int) (j0 : 0 ≤ j) (j1 : j ≠ k) => And.intro ((((Only.wr ehh19)).ga (d := 2509) (by decide) j).trans (nl j j0 j1).1) ((((Only.wr ehh19)).ga (d := 2510) (by decide) j).trans (nl j j0 j1).2)
              have ehw : ga hh19 2513 (2 * k + 1) = hw := (ga_wr ehh19 (by omega) (by omega)).trans (if_pos rfl)
              have bhw : (hw = 1 ∧ ga hh19 2495 20 < ga hh19 2495 10) ∨ hw = 0 := by
                rw [(Only.wr ehh19).ga (d := 2495) (by decide), (Only.wr ehh19).ga (d := 2495) (by decide)]
                exact hwv
              have el := (((Only.wr ehh19)).ga (d := 2509) (by decide) _).trans el
              have es := (((Only.wr ehh19)).ga (d := 2510) (by decide) _).trans es
              refine hd_aload pkX14_readBeam rfl rfl (Int.natCast_nonneg _) ?_
              refine hd_dup pkX14_readBeam rfl rfl ?_
              refine hd_getI pkX14_readBeam rfl (ghh19.cell 0 rfl).1 (ghh19.cell 0 rfl).2.1 (fun v20 ev20 rv20 => ?_)
              have z9 := rf.2.1 10 (by decide) (by decide)
              obtain ⟨an, han⟩ : ∃ x : Int, x = ga hh19 2495 20 := ⟨_, rfl⟩
              have hab : 0 ≤ an ∧ an ≤ z0 := by rw [han, hz0, ← z9]; exact rf.2.2
              have qv20 : an = v20 := by rw [ev20]; exact han
              subst qv20
              refine hd_aload pkX14_readBeam rfl rfl (Int.natCast_nonneg _) ?_
              refine hd_getR (n := 2513) pkX14_readBeam rfl (ghh19.cell 0 rfl).1 (ghh19.cell 0 rfl).2.1 (ghh19.ref 17 rfl) ?_
              refine hd_ipush (z := 2) pkX14_readBeam rfl ?_
              refine hd_iload pkX14_readBeam rfl rfl ?_
              refine hd_imul pkX14_readBeam rfl (by omega) ?_
              refine hd_ipush (z := 1) pkX14_readBeam rfl ?_
              refine hd_iadd pkX14_readBeam rfl (by omega) ?_
              refine hd_zald (n := 6) pkX14_readBeam rfl (ghh19.cell 18 rfl) (by omega) (by omega) (fun v21 ev21 rv21 => ?_)
              have qv21 : hw = v21 := by rw [ev21]; exact ehw.symm
              subst qv21
              have cut94 : ∀ (dhw : Int), ((dhw = 1 ∧ hw = 1) ∨ dhw = 0) → MW KX14_readBeam Q 0 0 (pcA pgX14_readBeam 94) [(0, (2, ((2495 : Nat) : Int))), (1, (0, k))] [(0, dhw), (0, an), (2, ((2495 : Nat) : Int))] hh19 := by
                intro dhw dhwv
                refine hd_iadd pkX14_readBeam rfl (by omega) ?_
                refine hd_putI pkX14_readBeam rfl (ghh19.cell 0 rfl).1 (ghh19.cell 0 rfl).2.1 (fun hh22 ehh22 => ?_)
                have ghh22 : Str t14 r14 hh22 := by rw [ehh22]; exact ghh19.setF rfl
                have bz9 : an < z0 ∨ hw = 0 := by
                  rcases bhw with ⟨_, q⟩ | q
                  · exact Or.inl (by rw [han, hz0, ← z9]; exact q)
                  · exact Or.inr q
                have rf := rf.at ehh22 (by rw [z9, ← hz0]; omega)
                have nl := fun (j : Int) (j0 : 0 ≤ j) (j1 : j ≠ k) => And.intro ((((Only.wr ehh22)).ga (d := 2509) (by decide) j).trans (nl j j0 j1).1) ((((Only.wr ehh22)).ga (d := 2510) (by decide) j).trans (nl j j0 j1).2)
                have el := (((Only.wr ehh22)).ga (d := 2509) (by decide) _).trans el
                have es := (((Only.wr ehh22)).ga (d := 2510) (by decide) _).trans es
                refine hd_aload pkX14_readBeam rfl rfl (Int.natCast_nonneg _) ?_
                refine hd_iload pkX14_readBeam rfl rfl ?_
                refine hd_ipush (z := 1) pkX14_readBeam rfl ?_
                refine hd_iadd pkX14_readBeam rfl (by omega) ?_
                have hA9 := rf.2.2
                have hZ9 : ga hh22 2495 10 ≤ 50 := by rw [rf.2.1 10 (by decide) (by decide)]; exact hz
                refine hd_callV pkX14_readBeam rfl (q := (KX14_readNode, yX14_readNode, 14, 1, 0)) rfl rfl rfl (As := [(0, (k + 1))]) (rest := []) (c := 2495) rfl rfl (Nat.le_of_ble_eq_true rfl) (ghh22.cell 0 rfl).1 (ghh22.cell 0 rfl).2.1 (h_X14_readNode ⟨by omega, by omega⟩ hA9 hZ9 ghh22) (hd_bI (fun rn hc23 pq => ?_))
                have ghc23 : Str t14 r14 hc23 := pq.2.2.2
                have rf := rf.trans pq.2.1
                have rnb := pq.1
                have nl := fun (j : Int) (j0 : 0 ≤ j) (j1 : j ≠ k) => And.intro (((pq.2.2.1).ga (d := 2509) (by decide) j).trans (nl j j0 j1).1) (((pq.2.2.1).ga (d := 2510) (by decide) j).trans (nl j j0 j1).2)
                have el := ((pq.2.2.1).ga (d := 2509) (by decide) _).trans el
                have es := ((pq.2.2.1).ga (d := 2510) (by decide) _).trans es
                refine hd_zret pkX14_readBeam rfl (by omega) ?_
                subst eQ
                refine ⟨rfl, rfl, ?_, rf, nl, ghc23⟩
                rcases rnb with q | q
                · exact Or.inl q
                · exact Or.inr ⟨q, by rw [el]; omega, by rw [es]; omega⟩
              refine hd_if_eq pkX14_readBeam rfl (fun c24 => ?_) (fun c24 => ?_)
              · skip
                refine hd_ipush (z := 0) pkX14_readBeam rfl ?_
                refine cut94 (0) ?_
                · omega
              · skip
                refine hd_ipush (z := 1) pkX14_readBeam rfl ?_
                refine hd_goto pkX14_readBeam rfl ?_
                refine cut94 (1) ?_
                · omega
            refine hd_ipush (z := 104) pkX14_readBeam rfl ?_
            refine hd_ic_ne pkX14_readBeam rfl (fun c25 => ?_) (fun c25 => ?_)
            · skip
              refine hd_ipush (z := 0) pkX14_readBeam rfl ?_
              refine cut78 (0) ?_
              · omega
            · skip
              refine hd_ipush (z := 1) pkX14_readBeam rfl ?_
              refine hd_goto pkX14_readBeam rfl ?_
              refine cut78 (1) ?_
              · omega
          · skip
            refine hd_ipush (z := 0) pkX14_readBeam rfl ?_
            refine hd_zret pkX14_readBeam rfl (by omega) ?_
            subst eQ
            exact ⟨rfl, rfl, Or.inl rfl, rf, nl, ghh15⟩
        · skip
          refine cut43 trivial
    refine hd_if_eq pkX14_readBeam rfl (fun c26 => ?_) (fun c26 => ?_)
    · skip
      refine hd_ipush (z := 0) pkX14_readBeam rfl ?_
      refine cut26 (0) ?_
      · omega
    · skip
      refine hd_ipush (z := 1) pkX14_readBeam rfl ?_
      refine hd_goto pkX14_readBeam rfl ?_
      refine cut26 (1) ?_
      · omega
  refine hd_ipush (z := 104) pkX14_readBeam rfl ?_
  refine hd_ic_ne pkX14_readBeam rfl (fun c27 => ?_) (fun c27 => ?_)
  · skip
    refine hd_ipush (z := 0) pkX14_readBeam rfl ?_
    refine cut12 (0) ?_
    · omega
  · skip
    refine hd_ipush (z := 1) pkX14_readBeam rfl ?_
    refine hd_goto pkX14_readBeam rfl ?_
    refine cut12 (1) ?_
    · omega
