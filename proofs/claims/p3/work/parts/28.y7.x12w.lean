/-! X12 by hand: its methods -/
set_option maxRecDepth 20000 in
set_option maxHeartbeats 8000000 in
theorem h_X12_walk {h : MH} {st fo : Int} (s12 : Set12 h) (ok : OkH h h) (fx : FxH h h) (hb : 0 ≤ st ∧ st < 88128) (hk : ga h 2463 st ≠ 0) (hD : Dm12 h st) (z9 : st / 36 % 17 = 16 ∧ st / 9 % 4 = 0) (efo : fo = ga h 2449 23) (fb : 0 ≤ fo ∧ fo ≤ 5) (ms : ∀ d : Int, 0 < d → d ≤ st % 9 → ga h 2463 (st - d) ≠ 0 → le3 (ga h 2460 st) (ga h 2461 st) (ga h 2462 st) (ga h 2460 (st - d)) (ga h 2461 (st - d)) (ga h 2462 (st - d))) (g : Str t12c r12c h) : MCal KX12_walk yX12_walk 0 0 [(2, ((2449 : Nat) : Int)), (0, st)] h (mRI fun v h' => Only [2449, 2465, 2466, 2467] h h' ∧ (∀ j : Int, 0 ≤ j → ga h' 2449 j = if j = 23 then fo + 1 else ga h 2449 j) ∧ (1 ≤ v ∧ v ≤ 5000) ∧ v = ga h' 2466 fo ∧ (∀ w : Int, 0 ≤ w → w ≠ fo → ga h' 2465 w = ga h 2465 w ∧ ga h' 2466 w = ga h 2466 w) ∧ (∀ j : Int, 0 ≤ j → (j < 5000 * fo ∨ 5000 * fo + v ≤ j) → ga h' 2467 j = ga h 2467 j) ∧ (∀ j : Int, 0 ≤ j → j < v → 0 ≤ ga h' 2467 (5000 * fo + j) ∧ ga h' 2467 (5000 * fo + j) ≤ 15) ∧ (0 ≤ ga h' 2465 fo ∧ ga h' 2465 fo ≤ 143) ∧ ∀ n : Nat, (n : Int) ≤ v → 0 ≤ pc12 (ga h' 2467) (ga h' 2465 fo) (5000 * fo) n ∧ pc12 (ga h' 2467) (ga h' 2465 fo) (5000 * fo) n ≤ 143) := by
  refine MCal.ofMW (Or.inl rfl) ⟨cp_X12, rfl⟩ (Nat.le_of_ble_eq_true rfl) ?_
  generalize eQ : (mRI fun v h' => Only [2449, 2465, 2466, 2467] h h' ∧ (∀ j : Int, 0 ≤ j → ga h' 2449 j = if j = 23 then fo + 1 else ga h 2449 j) ∧ (1 ≤ v ∧ v ≤ 5000) ∧ v = ga h' 2466 fo ∧ (∀ w : Int, 0 ≤ w → w ≠ fo → ga h' 2465 w = ga h 2465 w ∧ ga h' 2466 w = ga h 2466 w) ∧ (∀ j : Int, 0 ≤ j → (j < 5000 * fo ∨ 5000 * fo + v ≤ j) → ga h' 2467 j = ga h 2467 j) ∧ (∀ j : Int, 0 ≤ j → j < v → 0 ≤ ga h' 2467 (5000 * fo + j) ∧ ga h' 2467 (5000 * fo + j) ≤ 15) ∧ (0 ≤ ga h' 2465 fo ∧ ga h' 2465 fo ≤ 143) ∧ ∀ n : Nat, (n : Int) ≤ v → 0 ≤ pc12 (ga h' 2467) (ga h' 2465 fo) (5000 * fo) n ∧ pc12 (ga h' 2467) (ga h' 2465 fo) (5000 * fo) n ≤ 143 : MO → MH → Prop) = Q
  change MW KX12_walk Q 0 0 (pcA pgX12_walk 0) [(0, (2, ((2449 : Nat) : Int))), (1, (0, st))] [] h
  refine hd_locI (i := 1) rfl (fun rst => ?_)
  have m1 := ok.far (ed12_b s12) hb.1 hb.2 hk (by omega)
  refine hd_iload pkX12_walk rfl rfl ?_
  refine hd_istore pkX12_walk rfl rfl ?_
  change MW _ _ _ _ _ [(2, (0, st)), (0, (2, ((2449 : Nat) : Int))), (1, (0, st))] _ _
  refine hd_aload pkX12_walk rfl rfl (Int.natCast_nonneg _) ?_
  refine hd_getR (n := 2465) pkX12_walk rfl (g.cell 0 rfl).1 (g.cell 0 rfl).2.1 (g.ref 15 rfl) ?_
  refine hd_aload pkX12_walk rfl rfl (Int.natCast_nonneg _) ?_
  refine hd_getI pkX12_walk rfl (g.cell 0 rfl).1 (g.cell 0 rfl).2.1 (fun v1 ev1 rv1 => ?_)
  replace ev1 : v1 = ga h 2449 23 := ev1
  have qv1 : fo = v1 := by rw [ev1]; exact efo
  subst qv1
  refine hd_iload pkX12_walk rfl rfl ?_
  refine hd_ipush (z := 612) pkX12_walk rfl ?_
  refine hd_idiv pkX12_walk rfl (by omega) (by rw [(tdiv12 hb.1 (by omega)).1]; omega) ?_
  generalize ecs : (Int.tdiv st 612) = cs
  rw [(tdiv12 hb.1 (by omega)).1] at ecs
  refine hd_iast (n := 6) pkX12_walk rfl (g.cell 16 rfl) (by decide) (by omega) (by omega) (fun hh2 ehh2 => ?_)
  have ghh2 : Str t12c r12c hh2 := by rw [ehh2]; exact g.setA rfl
  have o1 : Only [2465, 2466, 2467] h hh2 := by rw [ehh2]; exact (Only.refl _ _).set (by decide)
  have a1 : ∀ j : Int, 0 ≤ j → ga hh2 2465 j = if j = fo then cs else ga h 2465 j := fun j a => by rw [ehh2]; exact ga_sa _ _ _ fb.1 a
  have b1 : ∀ j : Int, ga hh2 2466 j = ga h 2466 j := fun j => by rw [ehh2]; exact ga_ne _ _ _ _ (by decide) j
  have c1 : ∀ j : Int, ga hh2 2467 j = ga h 2467 j := fun j => by rw [ehh2]; exact ga_ne _ _ _ _ (by decide) j
  refine hd_aload pkX12_walk rfl rfl (Int.natCast_nonneg _) ?_
  refine hd_getR (n := 2466) pkX12_walk rfl (ghh2.cell 0 rfl).1 (ghh2.cell 0 rfl).2.1 (ghh2.ref 16 rfl) ?_
  refine hd_aload pkX12_walk rfl rfl (Int.natCast_nonneg _) ?_
  refine hd_getI pkX12_walk rfl (ghh2.cell 0 rfl).1 (ghh2.cell 0 rfl).2.1 (fun v3 ev3 rv3 => ?_)
  replace ev3 : v3 = ga hh2 2449 23 := ev3
  have qv3 : fo = v3 := by rw [ev3, o1.ga (by decide)]; exact efo
  subst qv3
  refine hd_ipush (z := 0) pkX12_walk rfl ?_
  refine hd_iast (n := 6) pkX12_walk rfl (ghh2.cell 17 rfl) (by decide) (by omega) (by omega) (fun hh4 ehh4 => ?_)
  have ghh4 : Str t12c r12c hh4 := by rw [ehh4]; exact ghh2.setA rfl
  have o2 : Only [2465, 2466, 2467] h hh4 := by rw [ehh4]; exact o1.set (by decide)
  have a2 : ∀ j : Int, 0 ≤ j → ga hh4 2465 j = if j = fo then cs else ga h 2465 j := fun j a => by rw [ehh4, ga_ne _ _ _ _ (by decide)]; exact a1 j a
  have b2 : ∀ j : Int, 0 ≤ j → ga hh4 2466 j = if j = fo then 0 else ga h 2466 j := fun j a => by rw [ehh4, ga_sa _ _ _ fb.1 a, b1]
  have c2 : ∀ j : Int, ga hh4 2467 j = ga h 2467 j := fun j => by rw [ehh4, ga_ne _ _ _ _ (by decide)]; exact c1 j
  have lp16 : ∀ (N16 : Nat) (at9 k : Int) (hW : MH), Str t12c r12c hW → (Only [2465, 2466, 2467] h hW) → (0 ≤ k) → (ga hW 2466 fo = k) → (WV12 h hW fo st k at9) → (∀ j : Int, 0 ≤ j → j < k → 0 ≤ ga hW 2467 (5000 * fo + j) ∧ ga hW 2467 (5000 * fo + j) ≤ 15) → ((∀ w : Int, 0 ≤ w → w ≠ fo → ga hW 2465 w = ga h 2465 w ∧ ga hW 2466 w = ga h 2466 w) ∧ (∀ j : Int, 0 ≤ j → (j < 5000 * fo ∨ 5000 * fo + k ≤ j) → ga hW 2467 j = ga h 2467 j) ∧ ga hW 2465 fo = st / 612) → ((0 ≤ at9 ∧ at9 < 88128) ∧ ga h 2463 at9 ≠ 0 ∧ Dm12 h at9) → (k = 0 → at9 = st) → ga h 2462 at9 < (N16 : Int) → MW KX12_walk Q 0 0 (pcA pgX12_walk 16) [(0, (2, ((2449 : Nat) : Int))), (1, (0, st)), (2, (0, at9))] [] hW := by
    intro N16
    induction N16 with
    | zero => intro at9 k hW g16 hO k0 em wv hd9 ot ka mk hm16; exfalso; have := ok.b (ed12_b s12) ka.1.1 ka.1.2 ka.2.1; omega
    | succ N16 ih16 =>
      intro at9 k hW g16 hO k0 em wv hd9 ot ka mk hm16
      have sW := (SM12.refl h).only hO (by decide)
      have kl := wv.len k0 s12 fx hD hb (by omega) ms
      refine hd_aload pkX12_walk rfl rfl (Int.natCast_nonneg _) ?_
      refine hd_getR (n := 2462) pkX12_walk rfl (g16.cell 0 rfl).1 (g16.cell 0 rfl).2.1 (g16.ref 12 rfl) ?_
      refine hd_iload pkX12_walk rfl rfl ?_
      refine hd_iald (n := 88128) pkX12_walk rfl (g16.cell 13 rfl) (by omega) (by omega) (fun v5 ev5 rv5 => ?_)
      obtain ⟨mm, qv5⟩ : ∃ x : Int, x = v5 := ⟨_, rfl⟩
      have emm : mm = ga h 2462 at9 := qv5.trans (ev5.trans (hO.ga (by decide) _))
      subst qv5
      refine hd_if_le pkX12_walk rfl (fun c6 => ?_) (fun c6 => ?_)
      · skip
        refine hd_aload pkX12_walk rfl rfl (Int.natCast_nonneg _) ?_
        refine hd_dup pkX12_walk rfl rfl ?_
        refine hd_getI pkX12_walk rfl (g16.cell 0 rfl).1 (g16.cell 0 rfl).2.1 (fun v7 ev7 rv7 => ?_)
        replace ev7 : v7 = ga hW 2449 23 := ev7
        have qv7 : fo = v7 := by rw [ev7, hO.ga (by decide)]; exact efo
        subst qv7
        refine hd_ipush (z := 1) pkX12_walk rfl ?_
        refine hd_iadd pkX12_walk rfl (by omega) ?_
        refine hd_putI pkX12_walk rfl (g16.cell 0 rfl).1 (g16.cell 0 rfl).2.1 (fun hh8 ehh8 => ?_)
        have ghh8 : Str t12c r12c hh8 := by rw [ehh8]; exact g16.setF rfl
        have o5 : Only [2449, 2465, 2466, 2467] h hh8 := by rw [ehh8]; exact (hO.mono (by decide)).set (by decide)
        have f5 : ∀ j : Int, 0 ≤ j → ga hh8 2449 j = if j = 23 then fo + 1 else ga h 2449 j := fun j a => by rw [ehh8, ga_sa _ _ _ (by decide) a, hO.ga (by decide)]; try rfl
        have a5 : ga hh8 2465 = ga hW 2465 := by rw [ehh8]; exact ga_fun (by decide)
        have b5 : ga hh8 2466 = ga hW 2466 := by rw [ehh8]; exact ga_fun (by decide)
        have c5 : ga hh8 2467 = ga hW 2467 := by rw [ehh8]; exact ga_fun (by decide)
        refine hd_aload pkX12_walk rfl rfl (Int.natCast_nonneg _) ?_
        refine hd_getR (n := 2466) pkX12_walk rfl (ghh8.cell 0 rfl).1 (ghh8.cell 0 rfl).2.1 (ghh8.ref 16 rfl) ?_
        refine hd_aload pkX12_walk rfl rfl (Int.natCast_nonneg _) ?_
        refine hd_getI pkX12_walk rfl (ghh8.cell 0 rfl).1 (ghh8.cell 0 rfl).2.1 (fun v9 ev9 rv9 => ?_)
        replace ev9 : v9 = ga hh8 2449 23 := ev9
        have qv9 : fo + 1 = v9 := by rw [ev9]; exact ((f5 23 (by decide)).trans (if_pos rfl)).symm
        subst qv9
        refine hd_ipush (z := 1) pkX12_walk rfl ?_
        refine hd_isub pkX12_walk rfl (by omega) ?_
        refine hd_iald (n := 6) pkX12_walk rfl (ghh8.cell 17 rfl) (by omega) (by omega) (fun v10 ev10 rv10 => ?_)
        refine hd_iret pkX12_walk rfl ?_
        have k1 : 1 ≤ k := by
          by_cases z : k = 0
          · have := mk z
            subst this
            omega
          · omega
        have xk : v10 = k := by
          have := ev10
          rw [this, b5, show fo + 1 - 1 = fo by omega]
          exact em
        subst eQ
        rw [xk]
        refine ⟨rfl, rfl, o5, f5, ?_, ?_, fun w w0 w1 => ?_, fun j j0 j1 => ?_, fun j j0 j1 => ?_, ?_, fun n hn => ?_⟩
        · show 1 ≤ k ∧ k ≤ 5000
          omega
        · show k = _
          rw [b5, em]
        · rw [a5, b5]; exact ot.1 w w0 w1
        · have j1 : j < 5000 * fo ∨ 5000 * fo + k ≤ j := j1
          rw [c5]; exact ot.2.1 j j0 (by omega)
        · have j1 : j < k := j1
          rw [c5]; exact hd9 j j0 (by omega)
        · rw [a5, ot.2.2]; omega
        · have hn : (n : Int) ≤ k := hn
          obtain ⟨v9, v0, v1, ve, vp⟩ := wv
          have al : ∀ j : Nat, j ≤ k.toNat → 0 ≤ v9 j ∧ v9 j < 88128 := by
            intro j hj
            cases j with
            | zero => rw [v0]; exact hb
            | succ j =>
              obtain ⟨p, t, e, _⟩ := ve j (by omega)
              obtain ⟨c9, l9, r9, s9, d9, ⟨_, _, _, _, s0⟩, dd, o9, k9, e9, _⟩ := e
              rw [e9]
              exact (nxF_b s12 o9 dd s0 k9).1
          rw [a5, c5, vp n (by omega)]
          have := al n (by omega)
          omega
      · skip
        refine hd_iload pkX12_walk rfl rfl ?_
        refine hd_ipush (z := 612) pkX12_walk rfl ?_
        refine hd_idiv pkX12_walk rfl (by omega) (by rw [(tdiv12 ka.1.1 (by omega)).1]; omega) ?_
        generalize ece : (Int.tdiv at9 612) = ce
        rw [(tdiv12 ka.1.1 (by omega)).1] at ece
        refine hd_istore pkX12_walk rfl rfl ?_
        change MW _ _ _ _ _ [(3, (0, ce)), (0, (2, ((2449 : Nat) : Int))), (1, (0, st)), (2, (0, at9))] _ _
        refine hd_iload pkX12_walk rfl rfl ?_
        refine hd_ipush (z := 36) pkX12_walk rfl ?_
        refine hd_idiv pkX12_walk rfl (by omega) (by rw [(tdiv12 ka.1.1 (by omega)).1]; omega) ?_
        generalize eq1 : (Int.tdiv at9 36) = q1
        rw [(tdiv12 ka.1.1 (by omega)).1] at eq1
        refine hd_ipush (z := 17) pkX12_walk rfl ?_
        refine hd_irem pkX12_walk rfl (by omega) (by have e9 := emod_of (x := q1) (y := 17) (by omega) (by omega); omega) ?_
        generalize ela : (Int.tmod q1 17) = la
        rw [(emod_of (x := q1) (by omega) (by omega)).1] at ela
        have zce : ce = at9 / 612 := ece.symm
        have zla : la = at9 / 36 % 17 := by rw [← ela, ← eq1]
        refine hd_istore pkX12_walk rfl rfl ?_
        change MW _ _ _ _ _ [(4, (0, la)), (3, (0, ce)), (0, (2, ((2449 : Nat) : Int))), (1, (0, st)), (2, (0, at9))] _ _
        refine hd_ipush (z := (-1)) pkX12_walk rfl ?_
        refine hd_istore pkX12_walk rfl rfl ?_
        change MW _ _ _ _ _ [(5, (0, (-1))), (4, (0, la)), (3, (0, ce)), (0, (2, ((2449 : Nat) : Int))), (1, (0, st)), (2, (0, at9))] _ _
        refine hd_ipush (z := 0) pkX12_walk rfl ?_
        refine hd_istore pkX12_walk rfl rfl ?_
        change MW _ _ _ _ _ [(6, (0, 0)), (5, (0, (-1))), (4, (0, la)), (3, (0, ce)), (0, (2, ((2449 : Nat) : Int))), (1, (0, st)), (2, (0, at9))] _ _
        refine hd_ipush (z := 0) pkX12_walk rfl ?_
        refine hd_istore pkX12_walk rfl rfl ?_
        change MW _ _ _ _ _ [(7, (0, 0)), (6, (0, 0)), (5, (0, (-1))), (4, (0, la)), (3, (0, ce)), (0, (2, ((2449 : Nat) : Int))), (1, (0, st)), (2, (0, at9))] _ _
        have lp37 : ∀ (N37 : Nat) (ch wy d : Int), (0 ≤ d ∧ d ≤ 16) → ((ch = -1 ∧ ∀ e : Int, 0 ≤ e → e < d → ¬ Fit12 h at9 e) ∨ ((0 ≤ wy ∧ wy ≤ 15) ∧ (0 ≤ ch ∧ ch < 88128) ∧ ch = nxF h (at9 / 612) (at9 / 9 % 4) (at9 % 9) wy ∧ Fit12 h at9 wy)) → (16 : Int) - d < (N37 : Int) → MW KX12_walk Q 0 0 (pcA pgX12_walk 37) [(0, (2, ((2449 : Nat) : Int))), (1, (0, st)), (2, (0, at9)), (3, (0, ce)), (4, (0, la)), (5, (0, ch)), (6, (0, wy)), (7, (0, d))] [] hW := by
          intro N37
          induction N37 with
          | zero => intro ch wy d d0 ci hm37; exfalso; omega
          | succ N37 ih37 =>
            intro ch wy d d0 ci hm37
            refine hd_iload pkX12_walk rfl rfl ?_
            refine hd_ipush (z := 16) pkX12_walk rfl ?_
            refine hd_ic_ge pkX12_walk rfl (fun c11 => ?_) (fun c11 => ?_)
            · skip
              obtain ⟨nf9, ef9⟩ := fit12 ok fx ka.1.1 ka.1.2 ka.2.1 ka.2.2 (by omega)
              obtain ⟨dw, dw0, fw⟩ := Fit12.of ef9
              obtain ⟨wyb, chb, ech, yw⟩ := ci.resolve_left (fun w => w.2 dw dw0.1 (by omega) fw)
              have fe := yw.ed ka.1 wyb
              rw [← ech] at fe
              refine hd_aload pkX12_walk rfl rfl (Int.natCast_nonneg _) ?_
              refine hd_getR (n := 2467) pkX12_walk rfl (g16.cell 0 rfl).1 (g16.cell 0 rfl).2.1 (g16.ref 17 rfl) ?_
              refine hd_ipush (z := 5000) pkX12_walk rfl ?_
              refine hd_aload pkX12_walk rfl rfl (Int.natCast_nonneg _) ?_
              refine hd_getI pkX12_walk rfl (g16.cell 0 rfl).1 (g16.cell 0 rfl).2.1 (fun v12 ev12 rv12 => ?_)
              replace ev12 : v12 = ga hW 2449 23 := ev12
              have qv12 : fo = v12 := by rw [ev12, hO.ga (by decide)]; exact efo
              subst qv12
              refine hd_imul pkX12_walk rfl (by omega) ?_
              refine hd_aload pkX12_walk rfl rfl (Int.natCast_nonneg _) ?_
              refine hd_getR (n := 2466) pkX12_walk rfl (g16.cell 0 rfl).1 (g16.cell 0 rfl).2.1 (g16.ref 16 rfl) ?_
              refine hd_aload pkX12_walk rfl rfl (Int.natCast_nonneg _) ?_
              refine hd_getI pkX12_walk rfl (g16.cell 0 rfl).1 (g16.cell 0 rfl).2.1 (fun v13 ev13 rv13 => ?_)
              replace ev13 : v13 = ga hW 2449 23 := ev13
              have qv13 : fo = v13 := by rw [ev13, hO.ga (by decide)]; exact efo
              subst qv13
              refine hd_iald (n := 6) pkX12_walk rfl (g16.cell 17 rfl) (by omega) (by omega) (fun v14 ev14 rv14 => ?_)
              have qv14 : k = v14 := by rw [ev14]; exact em.symm
              subst qv14
              refine hd_iadd pkX12_walk rfl (by omega) ?_
              refine hd_iload pkX12_walk rfl rfl ?_
              refine hd_i2b pkX12_walk rfl (by omega) ?_
              refine hd_bast3 (n := 30000) pkX12_walk rfl (g16.cell 18 rfl) (by decide) (by omega) (by omega) (by omega) (fun hh15 ehh15 => ?_)
              have ghh15 : Str t12c r12c hh15 := by rw [ehh15]; exact g16.setA rfl
              have o3 : Only [2465, 2466, 2467] h hh15 := by rw [ehh15]; exact hO.set (by decide)
              have c3 : ∀ j : Int, 0 ≤ j → ga hh15 2467 j = if j = 5000 * fo + k then wy else ga hW 2467 j := fun j a => by rw [ehh15]; exact ga_sa _ _ _ (by omega) a
              have a3 : ∀ j : Int, ga hh15 2465 j = ga hW 2465 j := fun j => by rw [ehh15]; exact ga_ne _ _ _ _ (by decide) j
              have b3 : ∀ j : Int, ga hh15 2466 j = ga hW 2466 j := fun j => by rw [ehh15]; exact ga_ne _ _ _ _ (by decide) j
              refine hd_aload pkX12_walk rfl rfl (Int.natCast_nonneg _) ?_
              refine hd_getR (n := 2466) pkX12_walk rfl (ghh15.cell 0 rfl).1 (ghh15.cell 0 rfl).2.1 (ghh15.ref 16 rfl) ?_
              refine hd_aload pkX12_walk rfl rfl (Int.natCast_nonneg _) ?_
              refine hd_getI pkX12_walk rfl (ghh15.cell 0 rfl).1 (ghh15.cell 0 rfl).2.1 (fun v16 ev16 rv16 => ?_)
              replace ev16 : v16 = ga hh15 2449 23 := ev16
              have qv16 : fo = v16 := by rw [ev16, o3.ga (by decide)]; exact efo
              subst qv16
              refine hd_dup2 pkX12_walk rfl rfl rfl ?_
              refine hd_iald (n := 6) pkX12_walk rfl (ghh15.cell 17 rfl) (by omega) (by omega) (fun v17 ev17 rv17 => ?_)
              have qv17 : k = v17 := by rw [ev17]; exact (by rw [b3]; exact em.symm)
              subst qv17
              refine hd_ipush (z := 1) pkX12_walk rfl ?_
              refine hd_iadd pkX12_walk rfl (by omega) ?_
              refine hd_iast (n := 6) pkX12_walk rfl (ghh15.cell 17 rfl) (by decide) (by omega) (by omega) (fun hh18 ehh18 => ?_)
              have ghh18 : Str t12c r12c hh18 := by rw [ehh18]; exact ghh15.setA rfl
              have o4 : Only [2465, 2466, 2467] h hh18 := by rw [ehh18]; exact o3.set (by decide)
              have c4 : ∀ j : Int, 0 ≤ j → ga hh18 2467 j = if j = 5000 * fo + k then wy else ga hW 2467 j := fun j a => by rw [ehh18, ga_ne _ _ _ _ (by decide)]; exact c3 j a
              have a4 : ∀ j : Int, ga hh18 2465 j = ga hW 2465 j := fun j => by rw [ehh18, ga_ne _ _ _ _ (by decide)]; exact a3 j
              have b4 : ∀ j : Int, 0 ≤ j → ga hh18 2466 j = if j = fo then k + 1 else ga hW 2466 j := fun j a => by rw [ehh18, ga_sa _ _ _ fb.1 a, b3]
              refine hd_iload pkX12_walk rfl rfl ?_
              refine hd_istore pkX12_walk rfl rfl ?_
              change MW _ _ _ _ _ [(2, (0, ch)), (0, (2, ((2449 : Nat) : Int))), (1, (0, st)), (3, (0, ce)), (4, (0, la)), (5, (0, ch)), (6, (0, wy)), (7, (0, d))] _ _
              refine hd_goto pkX12_walk rfl ?_
              refine m_sub [(0, (2, ((2449 : Nat) : Int))), (1, (0, st)), (2, (0, ch))] (List.forall_mem_cons.mpr ⟨rfl, List.forall_mem_cons.mpr ⟨rfl, List.forall_mem_cons.mpr ⟨rfl, fun _ h => absurd h List.not_mem_nil⟩⟩⟩) ?_
              refine ih16  (ch) (k + 1) hh18 ghh18 ?_ ?_ ?_ ?_ ?_ ?_ ?_ ?_ ?_
              · exact o4
              · omega
              · rw [b4 _ fb.1, if_pos rfl]
              · refine wv.next k0 fe.2 ?_ (a4 _) (d := wy) ?_ ?_
                · rw [ech]; exact (nxF_b s12 yw.1 wyb ⟨by omega, by omega⟩ yw.2.1).2.1
                · rw [c4 _ (by omega), if_pos rfl]
                · intro j j0 j1
                  rw [c4 _ (by omega), if_neg (by omega)]
              · intro j a b
                rw [c4 _ (by omega)]
                by_cases w : j = k
                · rw [if_pos (by omega)]
                  exact wyb
                · rw [if_neg (by omega)]
                  exact hd9 j a (by omega)
              · refine ⟨fun w w0 w1 => ⟨(a4 w).trans (ot.1 w w0 w1).1, by rw [b4 _ w0, if_neg w1]; exact (ot.1 w w0 w1).2⟩, fun j j0 j1 => ?_, (a4 _).trans ot.2.2⟩
                rw [c4 _ j0, if_neg (by omega)]
                exact ot.2.1 j j0 (by omega)
              · exact ⟨chb, by rw [ech]; exact yw.2.2.1, (ka.2.2.next s12 fe.1).1⟩
              · intro z
                omega
              · have m6 := yw.2.2.2.2.2; rw [← ech] at m6; omega
            · skip
              refine hd_aload pkX12_walk rfl rfl (Int.natCast_nonneg _) ?_
              refine hd_iload pkX12_walk rfl rfl ?_
              refine hd_iload pkX12_walk rfl rfl ?_
              refine hd_iload pkX12_walk rfl rfl ?_
              refine hd_ipush (z := 9) pkX12_walk rfl ?_
              refine hd_idiv pkX12_walk rfl (by omega) (by rw [(tdiv12 ka.1.1 (by omega)).1]; omega) ?_
              generalize eq2 : (Int.tdiv at9 9) = q2
              rw [(tdiv12 ka.1.1 (by omega)).1] at eq2
              refine hd_ipush (z := 4) pkX12_walk rfl ?_
              refine hd_irem pkX12_walk rfl (by omega) (by have e9 := emod_of (x := q2) (y := 4) (by omega) (by omega); omega) ?_
              generalize eru : (Int.tmod q2 4) = ru
              rw [(emod_of (x := q2) (by omega) (by omega)).1] at eru
              refine hd_iload pkX12_walk rfl rfl ?_
              refine hd_ipush (z := 9) pkX12_walk rfl ?_
              refine hd_irem pkX12_walk rfl (by omega) (by have e9 := emod_of (x := at9) (y := 9) (by omega) (by omega); omega) ?_
              generalize esh : (Int.tmod at9 9) = sh
              rw [(emod_of (x := at9) (by omega) (by omega)).1] at esh
              have zru : ru = at9 / 9 % 4 := by rw [← eru, ← eq2]
              have zsh : sh = at9 % 9 := esh.symm
              refine hd_iload pkX12_walk rfl rfl ?_
              refine hd_callV pkX12_walk rfl (q := (KX12_onward, yX12_onward, 12, 5, 0)) rfl rfl rfl (As := [(0, ce), (0, la), (0, ru), (0, sh), (0, d)]) (rest := []) (c := 2449) rfl rfl (Nat.le_of_ble_eq_true rfl) (g16.cell 0 rfl).1 (g16.cell 0 rfl).2.1 (h_X12_onward (σ := h) sW (sW.s s12) ⟨by omega, by omega⟩ ⟨by omega, by omega⟩ ⟨by omega, by omega⟩ ⟨by omega, by omega⟩ ⟨d0.1, by omega⟩ g16) (hd_bI (fun nx hc19 po => ?_))
              obtain ⟨po, ehc19⟩ := po
              replace ehc19 := ehc19.symm
              subst ehc19
              refine hd_istore pkX12_walk rfl rfl ?_
              change MW _ _ _ _ _ [(8, (0, nx)), (0, (2, ((2449 : Nat) : Int))), (1, (0, st)), (2, (0, at9)), (3, (0, ce)), (4, (0, la)), (5, (0, ch)), (6, (0, wy)), (7, (0, d))] _ _
              refine hd_iload pkX12_walk rfl rfl ?_
              refine hd_ipush (z := (-1)) pkX12_walk rfl ?_
              refine hd_ic_eq pkX12_walk rfl (fun c20 => ?_) (fun c20 => ?_)
              · skip
                have nf : ¬ Fit12 h at9 d := fun f => by
                  rcases po with w | w
                  · refine w.2 ?_
                    rw [zce, zla, zru, zsh]
                    have f3 := f.2.2.1
                    exact ⟨f.1, f.2.1, by rw [hO.ga (by decide)]; exact f3⟩
                  · have := w.1
                    omega
                refine hd_iinc (z := 1) pkX12_walk rfl rfl (by omega) rfl ?_
                change MW _ _ _ _ _ [(7, (0, (d + 1))), (8, (0, nx)), (0, (2, ((2449 : Nat) : Int))), (1, (0, st)), (2, (0, at9)), (3, (0, ce)), (4, (0, la)), (5, (0, ch)), (6, (0, wy))] _ _
                refine hd_goto pkX12_walk rfl ?_
                refine m_sub [(0, (2, ((2449 : Nat) : Int))), (1, (0, st)), (2, (0, at9)), (3, (0, ce)), (4, (0, la)), (5, (0, ch)), (6, (0, wy)), (7, (0, (d + 1)))] (List.forall_mem_cons.mpr ⟨rfl, List.forall_mem_cons.mpr ⟨rfl, List.forall_mem_cons.mpr ⟨rfl, List.forall_mem_cons.mpr ⟨rfl, List.forall_mem_cons.mpr ⟨rfl, List.forall_mem_cons.mpr ⟨rfl, List.forall_mem_cons.mpr ⟨rfl, List.forall_mem_cons.mpr ⟨rfl, fun _ h => absurd h List.not_mem_nil⟩⟩⟩⟩⟩⟩⟩⟩) ?_
                refine ih37  (ch) (wy) ((d + 1)) ?_ ?_ ?_
                · omega
                · rcases ci with ⟨e, f⟩ | w
                  · refine Or.inl ⟨e, fun x x0 x1 => ?_⟩
                    by_cases w : x = d
                    · rw [w]
                      exact nf
                    · exact f x x0 (by omega)
                  · exact Or.inr w
                · omega
              · skip
                obtain ⟨n0, en, o, k9, q⟩ := po.resolve_left (fun w => c20 w.1)
                rw [zce, zru, zsh] at en
                rw [zce, zsh] at k9
                rw [zce, zru, zsh] at q
                rw [zce, zla, zru] at o
                have nb := nxF_b s12 o ⟨d0.1, by omega⟩ ⟨by omega, by omega⟩ k9
                rw [← en] at nb q
                rw [hO.ga (by decide)] at q
                have sb := (on12_b s12 o).1
                have kb := ok.b (ed12_b s12) nb.1.1 nb.1.2 q
                have pb9 := prF_b s12 (d := d) sb.1 sb.2
                have db := dtF_b la d
                have cut107 : ∀ (bz : Int), (Tv12 bz (Fit12 h at9 d)) → MW KX12_walk Q 0 0 (pcA pgX12_walk 107) [(0, (2, ((2449 : Nat) : Int))), (1, (0, st)), (2, (0, at9)), (3, (0, ce)), (4, (0, la)), (5, (0, ch)), (6, (0, wy)), (7, (0, d)), (8, (0, nx))] [(0, bz)] hW := by
                  intro bz ebz
                  refine hd_istore pkX12_walk rfl rfl ?_
                  change MW _ _ _ _ _ [(9, (0, bz)), (0, (2, ((2449 : Nat) : Int))), (1, (0, st)), (2, (0, at9)), (3, (0, ce)), (4, (0, la)), (5, (0, ch)), (6, (0, wy)), (7, (0, d)), (8, (0, nx))] _ _
                  refine hd_iload pkX12_walk rfl rfl ?_
                  refine hd_if_eq pkX12_walk rfl (fun c21 => ?_) (fun c21 => ?_)
                  · skip
                    have nf := ebz.f c21
                    refine hd_iinc (z := 1) pkX12_walk rfl rfl (by omega) rfl ?_
                    change MW _ _ _ _ _ [(7, (0, (d + 1))), (9, (0, bz)), (0, (2, ((2449 : Nat) : Int))), (1, (0, st)), (2, (0, at9)), (3, (0, ce)), (4, (0, la)), (5, (0, ch)), (6, (0, wy)), (8, (0, nx))] _ _
                    refine hd_goto pkX12_walk rfl ?_
                    refine m_sub [(0, (2, ((2449 : Nat) : Int))), (1, (0, st)), (2, (0, at9)), (3, (0, ce)), (4, (0, la)), (5, (0, ch)), (6, (0, wy)), (7, (0, (d + 1)))] (List.forall_mem_cons.mpr ⟨rfl, List.forall_mem_cons.mpr ⟨rfl, List.forall_mem_cons.mpr ⟨rfl, List.forall_mem_cons.mpr ⟨rfl, List.forall_mem_cons.mpr ⟨rfl, List.forall_mem_cons.mpr ⟨rfl, List.forall_mem_cons.mpr ⟨rfl, List.forall_mem_cons.mpr ⟨rfl, fun _ h => absurd h List.not_mem_nil⟩⟩⟩⟩⟩⟩⟩⟩) ?_
                    refine ih37  (ch) (wy) ((d + 1)) ?_ ?_ ?_
                    · omega
                    · rcases ci with ⟨e, f⟩ | w
                      · refine Or.inl ⟨e, fun x x0 x1 => ?_⟩
                        by_cases w : x = d
                        · rw [w]
                          exact nf
                        · exact f x x0 (by omega)
                      · exact Or.inr w
                    · omega
                  · skip
                    have yf := ebz.t c21
                    refine hd_iload pkX12_walk rfl rfl ?_
                    refine hd_ipush (z := (-1)) pkX12_walk rfl ?_
                    refine hd_ic_eq pkX12_walk rfl (fun c22 => ?_) (fun c22 => ?_)
                    · skip
                      refine hd_iload pkX12_walk rfl rfl ?_
                      refine hd_istore pkX12_walk rfl rfl ?_
                      change MW _ _ _ _ _ [(5, (0, nx)), (9, (0, bz)), (0, (2, ((2449 : Nat) : Int))), (1, (0, st)), (2, (0, at9)), (3, (0, ce)), (4, (0, la)), (6, (0, wy)), (7, (0, d)), (8, (0, nx))] _ _
                      refine hd_iload pkX12_walk rfl rfl ?_
                      refine hd_istore pkX12_walk rfl rfl ?_
                      change MW _ _ _ _ _ [(6, (0, d)), (5, (0, nx)), (9, (0, bz)), (0, (2, ((2449 : Nat) : Int))), (1, (0, st)), (2, (0, at9)), (3, (0, ce)), (4, (0, la)), (7, (0, d)), (8, (0, nx))] _ _
                      refine hd_iinc (z := 1) pkX12_walk rfl rfl (by omega) rfl ?_
                      change MW _ _ _ _ _ [(7, (0, (d + 1))), (6, (0, d)), (5, (0, nx)), (9, (0, bz)), (0, (2, ((2449 : Nat) : Int))), (1, (0, st)), (2, (0, at9)), (3, (0, ce)), (4, (0, la)), (8, (0, nx))] _ _
                      refine hd_goto pkX12_walk rfl ?_
                      refine m_sub [(0, (2, ((2449 : Nat) : Int))), (1, (0, st)), (2, (0, at9)), (3, (0, ce)), (4, (0, la)), (5, (0, nx)), (6, (0, d)), (7, (0, (d + 1)))] (List.forall_mem_cons.mpr ⟨rfl, List.forall_mem_cons.mpr ⟨rfl, List.forall_mem_cons.mpr ⟨rfl, List.forall_mem_cons.mpr ⟨rfl, List.forall_mem_cons.mpr ⟨rfl, List.forall_mem_cons.mpr ⟨rfl, List.forall_mem_cons.mpr ⟨rfl, List.forall_mem_cons.mpr ⟨rfl, fun _ h => absurd h List.not_mem_nil⟩⟩⟩⟩⟩⟩⟩⟩) ?_
                      refine ih37  (nx) (d) ((d + 1)) ?_ ?_ ?_
                      · omega
                      · exact Or.inr ⟨⟨d0.1, by omega⟩, nb.1, en, yf⟩
                      · omega
                    · skip
                      refine hd_iload pkX12_walk rfl rfl ?_
                      refine hd_ipush (z := 612) pkX12_walk rfl ?_
                      refine hd_idiv pkX12_walk rfl (by omega) (by rw [(tdiv12 (by omega) (by omega)).1]; omega) ?_
                      generalize eu1 : (Int.tdiv nx 612) = u1
                      refine hd_iload pkX12_walk rfl rfl ?_
                      refine hd_ipush (z := 612) pkX12_walk rfl ?_
                      refine hd_idiv pkX12_walk rfl (by omega) (by rw [(tdiv12 (by omega) (by omega)).1]; omega) ?_
                      generalize eu2 : (Int.tdiv ch 612) = u2
                      refine hd_ic_ge pkX12_walk rfl (fun c23 => ?_) (fun c23 => ?_)
                      · skip
                        refine hd_iinc (z := 1) pkX12_walk rfl rfl (by omega) rfl ?_
                        change MW _ _ _ _ _ [(7, (0, (d + 1))), (9, (0, bz)), (0, (2, ((2449 : Nat) : Int))), (1, (0, st)), (2, (0, at9)), (3, (0, ce)), (4, (0, la)), (5, (0, ch)), (6, (0, wy)), (8, (0, nx))] _ _
                        refine hd_goto pkX12_walk rfl ?_
                        refine m_sub [(0, (2, ((2449 : Nat) : Int))), (1, (0, st)), (2, (0, at9)), (3, (0, ce)), (4, (0, la)), (5, (0, ch)), (6, (0, wy)), (7, (0, (d + 1)))] (List.forall_mem_cons.mpr ⟨rfl, List.forall_mem_cons.mpr ⟨rfl, List.forall_mem_cons.mpr ⟨rfl, List.forall_mem_cons.mpr ⟨rfl, List.forall_mem_cons.mpr ⟨rfl, List.forall_mem_cons.mpr ⟨rfl, List.forall_mem_cons.mpr ⟨rfl, List.forall_mem_cons.mpr ⟨rfl, fun _ h => absurd h List.not_mem_nil⟩⟩⟩⟩⟩⟩⟩⟩) ?_
                        refine ih37  (ch) (wy) ((d + 1)) ?_ ?_ ?_
                        · omega
                        · rcases ci with ⟨e, f⟩ | w
                          · omega
                          · exact Or.inr w
                        · omega
                      · skip
                        refine hd_iload pkX12_walk rfl rfl ?_
                        refine hd_istore pkX12_walk rfl rfl ?_
                        change MW _ _ _ _ _ [(5, (0, nx)), (9, (0, bz)), (0, (2, ((2449 : Nat) : Int))), (1, (0, st)), (2, (0, at9)), (3, (0, ce)), (4, (0, la)), (6, (0, wy)), (7, (0, d)), (8, (0, nx))] _ _
                        refine hd_iload pkX12_walk rfl rfl ?_
                        refine hd_istore pkX12_walk rfl rfl ?_
                        change MW _ _ _ _ _ [(6, (0, d)), (5, (0, nx)), (9, (0, bz)), (0, (2, ((2449 : Nat) : Int))), (1, (0, st)), (2, (0, at9)), (3, (0, ce)), (4, (0, la)), (7, (0, d)), (8, (0, nx))] _ _
                        refine hd_iinc (z := 1) pkX12_walk rfl rfl (by omega) rfl ?_
                        change MW _ _ _ _ _ [(7, (0, (d + 1))), (6, (0, d)), (5, (0, nx)), (9, (0, bz)), (0, (2, ((2449 : Nat) : Int))), (1, (0, st)), (2, (0, at9)), (3, (0, ce)), (4, (0, la)), (8, (0, nx))] _ _
                        refine hd_goto pkX12_walk rfl ?_
                        refine m_sub [(0, (2, ((2449 : Nat) : Int))), (1, (0, st)), (2, (0, at9)), (3, (0, ce)), (4, (0, la)), (5, (0, nx)), (6, (0, d)), (7, (0, (d + 1)))] (List.forall_mem_cons.mpr ⟨rfl, List.forall_mem_cons.mpr ⟨rfl, List.forall_mem_cons.mpr ⟨rfl, List.forall_mem_cons.mpr ⟨rfl, List.forall_mem_cons.mpr ⟨rfl, List.forall_mem_cons.mpr ⟨rfl, List.forall_mem_cons.mpr ⟨rfl, List.forall_mem_cons.mpr ⟨rfl, fun _ h => absurd h List.not_mem_nil⟩⟩⟩⟩⟩⟩⟩⟩) ?_
                        refine ih37  (nx) (d) ((d + 1)) ?_ ?_ ?_
                        · omega
                        · exact Or.inr ⟨⟨d0.1, by omega⟩, nb.1, en, yf⟩
                        · omega
                refine hd_aload pkX12_walk rfl rfl (Int.natCast_nonneg _) ?_
                refine hd_getR (n := 2460) pkX12_walk rfl (g16.cell 0 rfl).1 (g16.cell 0 rfl).2.1 (g16.ref 10 rfl) ?_
                refine hd_iload pkX12_walk rfl rfl ?_
                refine hd_lald (n := 88128) pkX12_walk rfl (g16.cell 11 rfl) (by omega) (by omega) (fun v24 ev24 rv24 => ?_)
                obtain ⟨bn, qv24⟩ : ∃ x : Int, x = v24 := ⟨_, rfl⟩
                have ebn : bn = ga h 2460 nx := qv24.trans (ev24.trans (hO.ga (by decide) _))
                subst qv24
                refine hd_aload pkX12_walk rfl rfl (Int.natCast_nonneg _) ?_
                refine hd_iload pkX12_walk rfl rfl ?_
                refine hd_ipush (z := 612) pkX12_walk rfl ?_
                refine hd_idiv pkX12_walk rfl (by omega) (by rw [(tdiv12 nb.1.1 (by omega)).1]; omega) ?_
                generalize eto : (Int.tdiv nx 612) = to
                rw [(tdiv12 nb.1.1 (by omega)).1, nb.2.1] at eto
                have tb : 0 ≤ to ∧ to ≤ 143 := by omega
                refine hd_iload pkX12_walk rfl rfl ?_
                refine hd_callV pkX12_walk rfl (q := (KX12_price, yX12_price, 12, 2, 0)) rfl rfl rfl (As := [(0, to), (0, d)]) (rest := [(1, bn)]) (c := 2449) rfl rfl (Nat.le_of_ble_eq_true rfl) (g16.cell 0 rfl).1 (g16.cell 0 rfl).2.1 (h_X12_price (sW.s s12) tb ⟨d0.1, by omega⟩ g16) (hd_bL (fun pv hc25 pp => ?_))
                obtain ⟨pp, ehc25⟩ := pp
                replace ehc25 := ehc25.symm
                subst ehc25
                rw [← eto, sW.pr] at pp
                refine hd_ladd pkX12_walk rfl (by omega) ?_
                refine hd_aload pkX12_walk rfl rfl (Int.natCast_nonneg _) ?_
                refine hd_getR (n := 2460) pkX12_walk rfl (g16.cell 0 rfl).1 (g16.cell 0 rfl).2.1 (g16.ref 10 rfl) ?_
                refine hd_iload pkX12_walk rfl rfl ?_
                refine hd_lald (n := 88128) pkX12_walk rfl (g16.cell 11 rfl) (by omega) (by omega) (fun v26 ev26 rv26 => ?_)
                obtain ⟨ba, qv26⟩ : ∃ x : Int, x = v26 := ⟨_, rfl⟩
                have eba : ba = ga h 2460 at9 := qv26.trans (ev26.trans (hO.ga (by decide) _))
                subst qv26
                refine hd_lc_ne pkX12_walk rfl (fun c27 => ?_) (fun c27 => ?_)
                · skip
                  refine hd_ipush (z := 0) pkX12_walk rfl ?_
                  refine m_sub [(0, (2, ((2449 : Nat) : Int))), (1, (0, st)), (2, (0, at9)), (3, (0, ce)), (4, (0, la)), (5, (0, ch)), (6, (0, wy)), (7, (0, d)), (8, (0, nx))] (List.forall_mem_cons.mpr ⟨rfl, List.forall_mem_cons.mpr ⟨rfl, List.forall_mem_cons.mpr ⟨rfl, List.forall_mem_cons.mpr ⟨rfl, List.forall_mem_cons.mpr ⟨rfl, List.forall_mem_cons.mpr ⟨rfl, List.forall_mem_cons.mpr ⟨rfl, List.forall_mem_cons.mpr ⟨rfl, List.forall_mem_cons.mpr ⟨rfl, fun _ h => absurd h List.not_mem_nil⟩⟩⟩⟩⟩⟩⟩⟩⟩) ?_
                  refine cut107 (0) ?_
                  · refine Or.inr ⟨rfl, fun f => ?_⟩
                    have f4 := f.2.2.2
                    rw [← en] at f4
                    rw [← ebn, ← eba, ← pp] at f4
                    omega
                · skip
                  refine hd_aload pkX12_walk rfl rfl (Int.natCast_nonneg _) ?_
                  refine hd_getR (n := 2461) pkX12_walk rfl (g16.cell 0 rfl).1 (g16.cell 0 rfl).2.1 (g16.ref 11 rfl) ?_
                  refine hd_iload pkX12_walk rfl rfl ?_
                  refine hd_iald (n := 88128) pkX12_walk rfl (g16.cell 12 rfl) (by omega) (by omega) (fun v28 ev28 rv28 => ?_)
                  obtain ⟨tn, qv28⟩ : ∃ x : Int, x = v28 := ⟨_, rfl⟩
                  have etn : tn = ga h 2461 nx := qv28.trans (ev28.trans (hO.ga (by decide) _))
                  subst qv28
                  have cut87 : ∀ (dt : Int), (dt = dtF la d) → MW KX12_walk Q 0 0 (pcA pgX12_walk 87) [(0, (2, ((2449 : Nat) : Int))), (1, (0, st)), (2, (0, at9)), (3, (0, ce)), (4, (0, la)), (5, (0, ch)), (6, (0, wy)), (7, (0, d)), (8, (0, nx))] [(0, dt), (0, tn)] hW := by
                    intro dt edt
                    refine hd_iadd pkX12_walk rfl (by omega) ?_
                    refine hd_aload pkX12_walk rfl rfl (Int.natCast_nonneg _) ?_
                    refine hd_getR (n := 2461) pkX12_walk rfl (g16.cell 0 rfl).1 (g16.cell 0 rfl).2.1 (g16.ref 11 rfl) ?_
                    refine hd_iload pkX12_walk rfl rfl ?_
                    refine hd_iald (n := 88128) pkX12_walk rfl (g16.cell 12 rfl) (by omega) (by omega) (fun v29 ev29 rv29 => ?_)
                    obtain ⟨ta, qv29⟩ : ∃ x : Int, x = v29 := ⟨_, rfl⟩
                    have eta : ta = ga h 2461 at9 := qv29.trans (ev29.trans (hO.ga (by decide) _))
                    subst qv29
                    refine hd_ic_ne pkX12_walk rfl (fun c30 => ?_) (fun c30 => ?_)
                    · skip
                      refine hd_ipush (z := 0) pkX12_walk rfl ?_
                      refine cut107 (0) ?_
                      · refine Or.inr ⟨rfl, fun f => ?_⟩
                        have f4 := f.2.2.2
                        rw [← en] at f4
                        rw [← ebn, ← eba, ← etn, ← eta, ← pp, ← zla, ← edt] at f4
                        omega
                    · skip
                      refine hd_aload pkX12_walk rfl rfl (Int.natCast_nonneg _) ?_
                      refine hd_getR (n := 2462) pkX12_walk rfl (g16.cell 0 rfl).1 (g16.cell 0 rfl).2.1 (g16.ref 12 rfl) ?_
                      refine hd_iload pkX12_walk rfl rfl ?_
                      refine hd_iald (n := 88128) pkX12_walk rfl (g16.cell 13 rfl) (by omega) (by omega) (fun v31 ev31 rv31 => ?_)
                      obtain ⟨mn, qv31⟩ : ∃ x : Int, x = v31 := ⟨_, rfl⟩
                      have emn : mn = ga h 2462 nx := qv31.trans (ev31.trans (hO.ga (by decide) _))
                      subst qv31
                      refine hd_ipush (z := 1) pkX12_walk rfl ?_
                      refine hd_iadd pkX12_walk rfl (by omega) ?_
                      refine hd_aload pkX12_walk rfl rfl (Int.natCast_nonneg _) ?_
                      refine hd_getR (n := 2462) pkX12_walk rfl (g16.cell 0 rfl).1 (g16.cell 0 rfl).2.1 (g16.ref 12 rfl) ?_
                      refine hd_iload pkX12_walk rfl rfl ?_
                      refine hd_iald (n := 88128) pkX12_walk rfl (g16.cell 13 rfl) (by omega) (by omega) (fun v32 ev32 rv32 => ?_)
                      obtain ⟨ma, qv32⟩ : ∃ x : Int, x = v32 := ⟨_, rfl⟩
                      have ema : ma = ga h 2462 at9 := qv32.trans (ev32.trans (hO.ga (by decide) _))
                      subst qv32
                      refine hd_ic_ne pkX12_walk rfl (fun c33 => ?_) (fun c33 => ?_)
                      · skip
                        refine hd_ipush (z := 0) pkX12_walk rfl ?_
                        refine cut107 (0) ?_
                        · refine Or.inr ⟨rfl, fun f => ?_⟩
                          have f4 := f.2.2.2
                          rw [← en] at f4
                          rw [← ebn, ← eba, ← etn, ← eta, ← emn, ← ema, ← pp, ← zla, ← edt] at f4
                          omega
                      · skip
                        refine hd_ipush (z := 1) pkX12_walk rfl ?_
                        refine hd_goto pkX12_walk rfl ?_
                        refine cut107 (1) ?_
                        · refine Or.inl ⟨rfl, o, k9, by rw [← en]; exact q, ?_⟩
                          rw [← en, ← ebn, ← eba, ← etn, ← eta, ← emn, ← ema, ← pp, ← zla, ← edt]
                          omega
                  refine hd_iload pkX12_walk rfl rfl ?_
                  refine hd_ipush (z := 16) pkX12_walk rfl ?_
                  refine hd_ic_eq pkX12_walk rfl (fun c34 => ?_) (fun c34 => ?_)
                  · skip
                    refine hd_ipush (z := 0) pkX12_walk rfl ?_
                    refine hd_goto pkX12_walk rfl ?_
                    refine m_sub [(0, (2, ((2449 : Nat) : Int))), (1, (0, st)), (2, (0, at9)), (3, (0, ce)), (4, (0, la)), (5, (0, ch)), (6, (0, wy)), (7, (0, d)), (8, (0, nx))] (List.forall_mem_cons.mpr ⟨rfl, List.forall_mem_cons.mpr ⟨rfl, List.forall_mem_cons.mpr ⟨rfl, List.forall_mem_cons.mpr ⟨rfl, List.forall_mem_cons.mpr ⟨rfl, List.forall_mem_cons.mpr ⟨rfl, List.forall_mem_cons.mpr ⟨rfl, List.forall_mem_cons.mpr ⟨rfl, List.forall_mem_cons.mpr ⟨rfl, fun _ h => absurd h List.not_mem_nil⟩⟩⟩⟩⟩⟩⟩⟩⟩) ?_
                    refine cut87 (0) ?_
                    · unfold dtF
                      split <;> omega
                  · skip
                    refine hd_iload pkX12_walk rfl rfl ?_
                    refine hd_iload pkX12_walk rfl rfl ?_
                    refine hd_ic_ne pkX12_walk rfl (fun c35 => ?_) (fun c35 => ?_)
                    · skip
                      refine hd_ipush (z := 1) pkX12_walk rfl ?_
                      refine m_sub [(0, (2, ((2449 : Nat) : Int))), (1, (0, st)), (2, (0, at9)), (3, (0, ce)), (4, (0, la)), (5, (0, ch)), (6, (0, wy)), (7, (0, d)), (8, (0, nx))] (List.forall_mem_cons.mpr ⟨rfl, List.forall_mem_cons.mpr ⟨rfl, List.forall_mem_cons.mpr ⟨rfl, List.forall_mem_cons.mpr ⟨rfl, List.forall_mem_cons.mpr ⟨rfl, List.forall_mem_cons.mpr ⟨rfl, List.forall_mem_cons.mpr ⟨rfl, List.forall_mem_cons.mpr ⟨rfl, List.forall_mem_cons.mpr ⟨rfl, fun _ h => absurd h List.not_mem_nil⟩⟩⟩⟩⟩⟩⟩⟩⟩) ?_
                      refine cut87 (1) ?_
                      · unfold dtF
                        split <;> omega
                    · skip
                      refine hd_ipush (z := 0) pkX12_walk rfl ?_
                      refine hd_goto pkX12_walk rfl ?_
                      refine m_sub [(0, (2, ((2449 : Nat) : Int))), (1, (0, st)), (2, (0, at9)), (3, (0, ce)), (4, (0, la)), (5, (0, ch)), (6, (0, wy)), (7, (0, d)), (8, (0, nx))] (List.forall_mem_cons.mpr ⟨rfl, List.forall_mem_cons.mpr ⟨rfl, List.forall_mem_cons.mpr ⟨rfl, List.forall_mem_cons.mpr ⟨rfl, List.forall_mem_cons.mpr ⟨rfl, List.forall_mem_cons.mpr ⟨rfl, List.forall_mem_cons.mpr ⟨rfl, List.forall_mem_cons.mpr ⟨rfl, List.forall_mem_cons.mpr ⟨rfl, fun _ h => absurd h List.not_mem_nil⟩⟩⟩⟩⟩⟩⟩⟩⟩) ?_
                      refine cut87 (0) ?_
                      · unfold dtF
                        split <;> omega
        refine m_sub [(0, (2, ((2449 : Nat) : Int))), (1, (0, st)), (2, (0, at9)), (3, (0, ce)), (4, (0, la)), (5, (0, (-1))), (6, (0, 0)), (7, (0, 0))] (List.forall_mem_cons.mpr ⟨rfl, List.forall_mem_cons.mpr ⟨rfl, List.forall_mem_cons.mpr ⟨rfl, List.forall_mem_cons.mpr ⟨rfl, List.forall_mem_cons.mpr ⟨rfl, List.forall_mem_cons.mpr ⟨rfl, List.forall_mem_cons.mpr ⟨rfl, List.forall_mem_cons.mpr ⟨rfl, fun _ h => absurd h List.not_mem_nil⟩⟩⟩⟩⟩⟩⟩⟩) ?_
        refine lp37 (((16 : Int) - (0)) + 1).toNat ((-1)) (0) (0) ?_ ?_ ?_
        · omega
        · exact Or.inl ⟨rfl, fun x x0 x1 => by omega⟩
        · omega
  refine m_sub [(0, (2, ((2449 : Nat) : Int))), (1, (0, st)), (2, (0, st))] (List.forall_mem_cons.mpr ⟨rfl, List.forall_mem_cons.mpr ⟨rfl, List.forall_mem_cons.mpr ⟨rfl, fun _ h => absurd h List.not_mem_nil⟩⟩⟩) ?_
  refine lp16 ((ga h 2462 (st)) + 1).toNat (st) (0) hh4 ghh4 ?_ ?_ ?_ ?_ ?_ ?_ ?_ ?_ ?_
  · exact o2
  · omega
  · rw [b2 _ fb.1, if_pos rfl]
  · refine ⟨fun _ => st, rfl, rfl, fun j hj => by have : j < 0 := hj; omega, fun j hj => ?_⟩
    have j0 : j = 0 := by have : j ≤ 0 := hj; omega
    subst j0
    show ga _ 2465 fo = st / 612
    rw [a2 _ fb.1, if_pos rfl, ecs]
  · intro j a b
    omega
  · refine ⟨fun w w0 w1 => ⟨by rw [a2 _ w0, if_neg w1], by rw [b2 _ w0, if_neg w1]⟩, fun j _ _ => c2 j, ?_⟩
    rw [a2 _ fb.1, if_pos rfl, ecs]
  · exact ⟨hb, hk, hD⟩
  · exact fun _ => rfl
  · have := ok.b (ed12_b s12) hb.1 hb.2 hk; omega
