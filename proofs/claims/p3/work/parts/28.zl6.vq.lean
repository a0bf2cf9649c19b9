/-! X14: a row's value is one value -/
theorem Hr.uniq {W : Int} {z s : Nat} {h : MH} {u d : Int} {r r' : Rat} (v : Hr W z s h u d r) (v' : Hr W z s h u d r') : r = r' := by
  obtain ⟨⟨_, a1, a2⟩, ⟨_, b1, _⟩, _⟩ := v
  obtain ⟨⟨_, c1, c2⟩, ⟨_, d1, _⟩, _⟩ := v'
  have n : r.num.natAbs = r'.num.natAbs := by
    have := a1.symm.trans c1
    omega
  have sg : r.num.sign = r'.num.sign := a2.symm.trans c2
  have dn : r.den = r'.den := by
    have := b1.symm.trans d1
    omega
  have nm : r.num = r'.num := by
    rw [← Int.sign_mul_natAbs r.num, ← Int.sign_mul_natAbs r'.num, n, sg]
  exact Rat.ext nm dn
theorem Tab.uniq {z s : Nat} {h : MH} {A B : Int → Int → Rat} (a : Tab z s h A) (b : Tab z s h B) : ∀ r k : Int, 0 ≤ r → r < 12 → 0 ≤ k → k < 28 → A r k = B r k := fun r k r0 r1 k0 k1 => (a r k r0 r1 k0 k1).uniq (b r k r0 r1 k0 k1)
theorem hvQ_cg {T T' : Int → Int → Rat} {tl L S : Int → Int} {k w x t col : Int} {s s' : Rat} {M : Int} (e : ∀ r k : Int, 0 ≤ r → r < 12 → 0 ≤ k → k < 28 → T r k = T' r k) (M3 : M ≤ 3) (k0 : 0 ≤ k) (k1 : k < M) (c0 : 0 ≤ col ∧ col < 28) (tb : ∀ j : Int, 0 ≤ j → j < 4 * M → 0 ≤ tl j ∧ tl j < 4 * M) (es : s = s') : hvQ T tl L S k w x t col s = hvQ T' tl L S k w x t col s' := by
  unfold hvQ
  rw [es, sumN_congr 4 (f := hsF T tl k w x t (L k) (S k) col) (g := hsF T' tl k w x t (L k) (S k) col) fun j hj => by
    unfold hsF
    have b := tb (4 * k + (j : Int)) (by omega) (by omega)
    rw [e _ _ b.1 (by omega) c0.1 c0.2]]
theorem valQ_cg {T T' : Int → Int → Rat} {tl L S : Int → Int} {M rw mb pl k p : Int} (e : ∀ r k : Int, 0 ≤ r → r < 12 → 0 ≤ k → k < 28 → T r k = T' r k) (M3 : M ≤ 3) (k0 : 0 ≤ k ∧ k < M) (p0 : 0 ≤ p ∧ p ≤ 4) (mb0 : 0 ≤ mb ∧ mb ≤ M) (mb3 : rw < 3 → mb < M) (tb : ∀ j : Int, 0 ≤ j → j < 4 * M → 0 ≤ tl j ∧ tl j < 4 * M) : valQ T tl L S M rw mb pl k p = valQ T' tl L S M rw mb pl k p := by
  have c0 : 0 ≤ 12 + 5 * k + p ∧ 12 + 5 * k + p < 28 := by omega
  have a3 : v3a T tl L S M mb (12 + 5 * k + p) = v3a T' tl L S M mb (12 + 5 * k + p) := by
    unfold v3a
    split
    · exact hvQ_cg e M3 mb0.1 (by assumption) c0 tb rfl
    · rfl
  have b3 : v3b T tl L S M mb (12 + 5 * k + p) = v3b T' tl L S M mb (12 + 5 * k + p) := by
    unfold v3b
    split
    · exact hvQ_cg e M3 (by omega) (by omega) c0 tb a3
    · exact a3
  unfold valQ
  split
  · exact hvQ_cg e M3 mb0.1 (mb3 (by assumption)) c0 tb rfl
  · rw [b3]
def BR (h : MH) (M row k q : Int) : Prop := (0 ≤ k ∧ k < M) ∧ (0 ≤ q ∧ q ≤ 4) ∧ ((0 ≤ ga h 2506 row ∧ ga h 2506 row ≤ M) ∧ (ga h 2505 row < 3 → ga h 2506 row < M)) ∧ ∀ j : Int, 0 ≤ j → j < 4 * M → 0 ≤ ga h 2508 j ∧ ga h 2508 j < 4 * M
theorem BR.rk {h h' : MH} {M row k q : Int} (b : BR h M row k q) (r : Rk h h' M) (n : ga h 2495 16 ≠ 0) : BR h' M row k q := by
  obtain ⟨b1, b2, b3, b4⟩ := b
  refine ⟨b1, b2, ?_, fun j j0 j1 => ?_⟩
  · rw [r.1.ga (by decide), r.1.ga (by decide)]
    exact b3
  · rw [(r.2.2.2 n).2.2.1 j]
    exact b4 j j0 j1
theorem VQ.uniq {h : MH} {M row k q : Int} {r r' : Rat} (M3 : M ≤ 3) (b : BR h M row k q) (v : VQ h M row k q r) (v' : VQ h M row k q r') : r = r' := by
  obtain ⟨T, t, e⟩ := v
  obtain ⟨T', t', e'⟩ := v'
  obtain ⟨b1, b2, b3, b4⟩ := b
  rw [e, e']
  exact valQ_cg (t.uniq t') M3 b1 b2 b3.1 b3.2 b4
set_option maxRecDepth 20000 in
set_option maxHeartbeats 8000000 in
theorem h_X14_atB {h : MH} {row k q part M : Int} (j4 : J4 h M) (r8 : R8 h M) (g : Str t14 r14 h) : MCal KX14_at yX14_at 0 0 [(2, ((2495 : Nat) : Int)), (0, row), (0, k), (0, q), (0, part)] h (mRL fun v h' => Rk h h' M ∧ (v = (if part = -1 then -2 else -1) ∨ ∃ r : Rat, VQ h' M row k q r ∧ -1 ≤ part ∧ ga h' 2495 16 ≠ 0 ∧ SzQ 5 r ∧ (r.den : Int) < 1000000000000000000000000000000000000 ∧ AtR r part v ∧ BR h' M row k q)) := by
  refine MCal.ofMW (Or.inl rfl) ⟨cp_X14, rfl⟩ (Nat.le_of_ble_eq_true rfl) ?_
  generalize eQ : (mRL fun v h' => Rk h h' M ∧ (v = (if part = -1 then -2 else -1) ∨ ∃ r : Rat, VQ h' M row k q r ∧ -1 ≤ part ∧ ga h' 2495 16 ≠ 0 ∧ SzQ 5 r ∧ (r.den : Int) < 1000000000000000000000000000000000000 ∧ AtR r part v ∧ BR h' M row k q) : MO → MH → Prop) = Q
  change MW KX14_at Q 0 0 (pcA pgX14_at 0) [(0, (2, ((2495 : Nat) : Int))), (1, (0, row)), (2, (0, k)), (3, (0, q)), (4, (0, part))] [] h
  refine hd_locI (i := 1) rfl (fun rrow => ?_)
  refine hd_locI (i := 2) rfl (fun rk => ?_)
  refine hd_locI (i := 3) rfl (fun rq => ?_)
  refine hd_locI (i := 4) rfl (fun rpart => ?_)
  have hM := j4.1.1
  refine hd_aload pkX14_at rfl rfl (Int.natCast_nonneg _) ?_
  refine hd_ipush (z := 0) pkX14_at rfl ?_
  refine hd_putI pkX14_at rfl (g.cell 0 rfl).1 (g.cell 0 rfl).2.1 (fun hh1 ehh1 => ?_)
  have ghh1 : Str t14 r14 hh1 := by rw [ehh1]; exact g.setF rfl
  have rk := Rk.fault j4 ehh1
  have cut19 : ∀ (_ : True) (hj19 : MH), Str t14 r14 hj19 → (Rk h hj19 M) → MW KX14_at Q 0 0 (pcA pgX14_at 19) [(0, (2, ((2495 : Nat) : Int))), (1, (0, row)), (2, (0, k)), (3, (0, q)), (4, (0, part))] [] hj19 := by
    intro _ hj19 gc19 rk
    refine hd_iload pkX14_at rfl rfl ?_
    refine hd_callS pkX14_at rfl (q := (KX14_none, yX14_none, 14, 1, 1)) rfl rfl rfl (As := [(0, part)]) (rest := []) rfl rfl (Nat.le_of_ble_eq_true rfl) rfl (h_X14_none gc19) (hd_bL (fun no hc2 po => ?_))
    obtain ⟨po, ehc2⟩ := po
    replace ehc2 := ehc2.symm
    subst ehc2
    refine hd_lret pkX14_at rfl ?_
    subst eQ
    exact ⟨rfl, rfl, rk, Or.inl po⟩
  refine hd_aload pkX14_at rfl rfl (Int.natCast_nonneg _) ?_
  refine hd_iload pkX14_at rfl rfl ?_
  refine hd_callV pkX14_at rfl (q := (KX14_noBeam, yX14_noBeam, 14, 1, 0)) rfl rfl rfl (As := [(0, k)]) (rest := []) (c := 2495) rfl rfl (Nat.le_of_ble_eq_true rfl) (ghh1.cell 0 rfl).1 (ghh1.cell 0 rfl).2.1 (h_X14_noBeam rk.j.1.2.1 ghh1) (hd_bI (fun nb hc3 pb => ?_))
  obtain ⟨pb, ehc3⟩ := pb
  replace ehc3 := ehc3.symm
  subst ehc3
  refine hd_if_ne pkX14_at rfl (fun c4 => ?_) (fun c4 => ?_)
  · skip
    refine cut19 trivial hh1 ghh1 ?_
    · exact rk
  · skip
    refine hd_iload pkX14_at rfl rfl ?_
    refine hd_if_lt pkX14_at rfl (fun c5 => ?_) (fun c5 => ?_)
    · skip
      refine cut19 trivial hh1 ghh1 ?_
      · exact rk
    · skip
      refine hd_iload pkX14_at rfl rfl ?_
      refine hd_ipush (z := 4) pkX14_at rfl ?_
      refine hd_ic_gt pkX14_at rfl (fun c6 => ?_) (fun c6 => ?_)
      · skip
        refine cut19 trivial hh1 ghh1 ?_
        · exact rk
      · skip
        refine hd_iload pkX14_at rfl rfl ?_
        refine hd_ipush (z := (-1)) pkX14_at rfl ?_
        refine hd_ic_lt pkX14_at rfl (fun c7 => ?_) (fun c7 => ?_)
        · skip
          refine cut19 trivial hh1 ghh1 ?_
          · exact rk
        · skip
          refine hd_aload pkX14_at rfl rfl (Int.natCast_nonneg _) ?_
          refine hd_iload pkX14_at rfl rfl ?_
          refine hd_callV pkX14_at rfl (q := (KX14_noRow, yX14_noRow, 14, 1, 0)) rfl rfl rfl (As := [(0, row)]) (rest := []) (c := 2495) rfl rfl (Nat.le_of_ble_eq_true rfl) (ghh1.cell 0 rfl).1 (ghh1.cell 0 rfl).2.1 (h_X14_noRow rk.j (rk.r8 r8) ghh1) (hd_bI (fun nr hc8 pn => ?_))
          have ghc8 : Str t14 r14 hc8 := ghh1.rk pn.2.1
          have r12 := rk.2.1 12 (by decide) (by decide) (by decide) (by decide) (by decide)
          have rk := rk.trans pn.2.1
          have nv := pn.1
          have nf := pn.2.2
          refine hd_if_eq pkX14_at rfl (fun c9 => ?_) (fun c9 => ?_)
          · skip
            refine hd_aload pkX14_at rfl rfl (Int.natCast_nonneg _) ?_
            refine hd_iload pkX14_at rfl rfl ?_
            refine hd_iload pkX14_at rfl rfl ?_
            refine hd_iload pkX14_at rfl rfl ?_
            obtain ⟨rb, n16, sv, fe⟩ := nf (by omega)
            obtain ⟨E0, T, D, bv⟩ := BV.of rk.j.1 (rk.r8 r8) rb.1 (by have q := rk.2.1 12 (by decide) (by decide) (by decide) (by decide) (by decide); omega) sv fe
            refine hd_callV pkX14_at rfl (q := (KX14_value, yX14_value, 14, 3, 0)) rfl rfl rfl (As := [(0, row), (0, k), (0, q)]) (rest := []) (c := 2495) rfl rfl (Nat.le_of_ble_eq_true rfl) (ghc8.cell 0 rfl).1 (ghc8.cell 0 rfl).2.1 (h_X14_value ⟨by omega, by omega⟩ ⟨by omega, by omega⟩ bv.1.1.1 bv.1.1.2 bv.1.2.1 bv.1.2.2.1 bv.2.1 rfl rfl rfl bv.2.2.1.1 bv.2.2.1.2.1 bv.2.2.1.2.2.1 bv.2.2.1.2.2.2 bv.2.2.2.1.1 bv.2.2.2.1.2.1 bv.2.2.2.1.2.2 bv.2.2.2.2.1 bv.2.2.2.2.2.1 bv.2.2.2.2.2.2 ghc8) (hd_bV (fun hc10 pv => ?_))
            have ghc10 : Str t14 r14 hc10 := ghc8.only pv.1.1 (by decide)
            have rk8 := Rk.ch rk.j pv.1 (by decide)
            obtain ⟨r, VS, vf, er⟩ := pv.2.2
            have vq0 : VQ hc8 M row k q r := ⟨T, bv.2.2.2.2.1, er⟩
            have br0 : BR hc8 M row k q := ⟨by omega, by omega, ⟨bv.2.2.1.2.1, bv.2.2.1.2.2.1⟩, bv.2.2.2.2.2.2⟩
            have vq := vq0.rk rk8 n16
            have br := br0.rk rk8 n16
            have n16 := (rk8.2.2.2 n16).1
            have rk := rk.trans rk8
            refine hd_aload pkX14_at rfl rfl (Int.natCast_nonneg _) ?_
            refine hd_ipush (z := 681) pkX14_at rfl ?_
            refine hd_ipush (z := 682) pkX14_at rfl ?_
            refine hd_iload pkX14_at rfl rfl ?_
            refine hd_callV pkX14_at rfl (q := (KX14_told, yX14_told, 14, 3, 0)) rfl rfl rfl (As := [(0, 681), (0, 682), (0, part)]) (rest := []) (c := 2495) rfl rfl (Nat.le_of_ble_eq_true rfl) (ghc10.cell 0 rfl).1 (ghc10.cell 0 rfl).2.1 (h_X14_told (by decide) (by decide) (by decide) (by decide) VS.1.1 VS.1.2.1 VS.2.1.1 VS.2.1.2.1 ghc10) (hd_bL (fun tv hc11 pt => ?_))
            have ghc11 : Str t14 r14 hc11 := ghc10.only pt.1.1 (by decide)
            have rk8 := Rk.ch rk.j pt.1 (by decide)
            have vq := vq.rk rk8 n16
            have br := br.rk rk8 n16
            have n16 := (rk8.2.2.2 n16).1
            have rk := rk.trans rk8
            refine hd_lret pkX14_at rfl ?_
            subst eQ
            exact ⟨rfl, rfl, rk, Or.inr ⟨r, vq, by omega, n16, vf.fk bv.fk, den_lt bv.fk vf, ⟨fun q => (pt.2.1 q).trans VS.1.2.2, fun q => pt.2.2 q⟩, br⟩⟩
          · skip
            refine cut19 trivial hc8 ghc8 ?_
            · exact rk
