/-! logJoin of both desks answers the same -/
theorem zJ_f : (zJ.all fun k => zkpC zG [(2448, 2448, 0, 0)] 2628 (k, ([], [], [], []))) = true := by decide +kernel
theorem JJ.fault {h : MH} (J : JJ zJ h) (v : Int) : JJ zJ (sa h 2448 0 v) ∧ Frm [(2448, 2448, 0, 0)] h (sa h 2448 0 v) := by
  have F : Frm [(2448, 2448, 0, 0)] h (sa h 2448 0 v) := Frm.write (r := 2448) (i := 0) (by decide) (by decide) (by decide) List.mem_cons_self ⟨⟨by decide, Or.inr (by decide)⟩, Or.inr ⟨by decide, by decide⟩⟩
  have s : StrZ zT (sa h 2448 0 v) := StrZ.write (r := 2448) (i := 0) J.1 (by decide) (by decide +kernel) (by decide +kernel)
  exact ⟨⟨s, fun k hk => zGl_kp F J.1.1.1 (List.all_eq_true.mp zJ_pos k hk) (List.all_eq_true.mp zJ_f k hk) (J.2 k hk)⟩, F⟩
theorem c_lj11 {h : MH} (J : JJ zJ h) (q : LQb h) (c : Int) (w : UInt64) : MCal KX11_logJoin yX11_logJoin 0 0 [(2, ((4 : Nat) : Int)), (0, c), (3, (w.toNat : Int))] h (mRD fun v h' => h' = h ∧ ∃ r : UInt64, v = (r.toNat : Int) ∧ LJ (nl8 h c) (rg8 h c) (cy8 h c) w r) := by
  refine MCal.ofMW (Or.inr (Or.inl rfl)) ⟨cp_X11, rfl⟩ (Nat.le_of_ble_eq_true rfl) ?_
  have g : Str [(4, 27, 0), (618, 24, 0)] [(4, 4, 618)] h := str_of (by decide +kernel) J.1
  show MW KX11_logJoin _ 0 0 (pcA pgX11_logJoin 0) [(0, (2, ((4 : Nat) : Int))), (1, (0, c)), (2, (3, (w.toNat : Int)))] [] h
  refine hd_aload pkX11_logJoin rfl rfl (Int.natCast_nonneg _) ?_
  refine hd_getR (n := 618) pkX11_logJoin rfl (g.cell 0 rfl).1 (g.cell 0 rfl).2.1 (g.ref 0 rfl) ?_
  refine hd_iload pkX11_logJoin rfl rfl ?_
  refine m_dload_n (K := KX11_logJoin) (by decide +kernel) rfl ?_
  refine hd_pc (by decide +kernel : pcA pgX11_logJoin 3 + 1 = pcA pgX11_logJoin 4) ?_
  refine hd_callV pkX11_logJoin rfl (q := (KX8_bornBetween, yX8_bornBetween, 8, 2, 0)) rfl rfl (by decide +kernel) (As := [(0, c), (3, (w.toNat : Int))]) (rest := []) (c := 618) rfl rfl (Nat.le_of_ble_eq_true rfl) (g.cell 1 rfl).1 (g.cell 1 rfl).2.1 (w_born J q c w) (hd_bD (fun v h2 p => ?_))
  obtain ⟨rfl, p⟩ := p
  exact m_dreturn (K := KX11_logJoin) (by decide +kernel) rfl ⟨rfl, rfl, rfl, p⟩
theorem c_lj20 {h : MH} (J : JJ zJ h) (q : LQR h) (c : Int) (w : UInt64) : MCal KX20_logJoin yX20_logJoin 0 0 [(2, ((2448 : Nat) : Int)), (0, c), (3, (w.toNat : Int))] h (mRD fun v h' => JJ zJ h' ∧ Frm [(2448, 2448, 0, 0)] h h' ∧ ∃ r : UInt64, v = (r.toNat : Int) ∧ LJ (nlR h c) (rgR h c) (cyR h c) w r) := by
  refine MCal.ofMW (Or.inr (Or.inl rfl)) ⟨cp_X20, rfl⟩ (Nat.le_of_ble_eq_true rfl) ?_
  have g : Str [(2448, 36, 0), (2534, 34, 0)] [(2448, 5, 2534)] h := str_of (by decide +kernel) J.1
  show MW KX20_logJoin _ 0 0 (pcA pgX20_logJoin 0) [(0, (2, ((2448 : Nat) : Int))), (1, (0, c)), (2, (3, (w.toNat : Int)))] [] h
  refine hd_aload pkX20_logJoin rfl rfl (Int.natCast_nonneg _) ?_
  refine hd_ipush (z := 0) pkX20_logJoin rfl ?_
  refine hd_putI pkX20_logJoin rfl (g.cell 0 rfl).1 (g.cell 0 rfl).2.1 (fun h2 eh => ?_)
  obtain ⟨J2, F⟩ := J.fault 0
  replace eh : h2 = sa h 2448 0 0 := eh
  rw [← eh] at J2 F
  have g2 : Str [(2448, 36, 0), (2534, 34, 0)] [(2448, 5, 2534)] h2 := str_of (by decide +kernel) J2.1
  have e3 : ∀ r i : Int, 2540 ≤ r → r ≤ 2542 → gz h2 r i = gz h r i := fun r i r0 r1 => F.2.2 r i fun m hm y => by
    rw [List.mem_singleton.mp hm] at y
    have y1 : (2448 : Int) ≤ r ∧ ((2448 : Nat) = 0 ∨ r ≤ (2448 : Int)) := y.1
    omega
  have el : ∀ c : Int, lnR h2 c = lnR h c := fun c => e3 2540 c (by decide) (by decide)
  have er : ∀ c : Int, rgR h2 c = rgR h c := fun c => funext fun k => e3 2541 _ (by decide) (by decide)
  have ey : ∀ c : Int, cyR h2 c = cyR h c := fun c => funext fun k => e3 2542 _ (by decide) (by decide)
  have q2 : LQR h2 := fun c c0 c8 => by
    rw [el, er, ey]
    exact q c c0 c8
  refine hd_aload pkX20_logJoin rfl rfl (Int.natCast_nonneg _) ?_
  refine hd_getR (n := 2534) pkX20_logJoin rfl (g2.cell 0 rfl).1 (g2.cell 0 rfl).2.1 (g2.ref 0 rfl) ?_
  refine hd_iload pkX20_logJoin rfl rfl ?_
  refine m_dload_n (K := KX20_logJoin) (by decide +kernel) rfl ?_
  refine hd_pc (by decide +kernel : pcA pgX20_logJoin 6 + 1 = pcA pgX20_logJoin 7) ?_
  refine hd_callV pkX20_logJoin rfl (q := (KX18_logJoin, yX18_logJoin, 18, 2, 0)) rfl rfl (by decide +kernel) (As := [(0, c), (3, (w.toNat : Int))]) (rest := []) (c := 2534) rfl rfl (Nat.le_of_ble_eq_true rfl) (g2.cell 1 rfl).1 (g2.cell 1 rfl).2.1 (w_logJoin J2 q2 c w) (hd_bD (fun v h3 p => ?_))
  obtain ⟨rfl, r, hr, p⟩ := p
  have en : nlR h3 c = nlR h c := by
    unfold nlR
    rw [el]
  rw [en, er, ey] at p
  exact m_dreturn (K := KX20_logJoin) (by decide +kernel) rfl ⟨rfl, rfl, J2, F, r, hr, p⟩
theorem dec_of {n : Int} {R : Int → Int} (a : ∀ k : Int, 0 ≤ k → k + 1 < n → R (k + 1) < R k) : ∀ (d : Nat) (i : Int), 0 ≤ i → i + (d : Int) + 1 < n → R (i + (d : Int) + 1) < R i
  | 0, i, i0, h => by
    have := a i i0 (by omega)
    rw [show i + ((0 : Nat) : Int) + 1 = i + 1 by omega]
    exact this
  | d + 1, i, i0, h => by
    have h1 := dec_of a d i i0 (by omega)
    have h2 := a (i + (d : Int) + 1) (by omega) (by omega)
    rw [show i + ((d + 1 : Nat) : Int) + 1 = i + (d : Int) + 1 + 1 by omega]
    omega
theorem lj_pair {N n : Nat} {h : MH} (I : LI N n h) (c : Int) (z w1 : UInt64) (a1 : alike64 w1 z = true) :
    ∃ R8 : UInt64 → Prop, MCal KX11_logJoin yX11_logJoin 0 0 [(2, ((4 : Nat) : Int)), (0, c), (3, (w1.toNat : Int))] h (mRD fun v h' => JJ zJ h' ∧ Frm (kMd ct_X11_logJoin) h h' ∧ ∃ r : UInt64, v = (r.toNat : Int) ∧ R8 r) ∧
      ∀ (w2 : UInt64) (h1 : MH), alike64 w2 z = true → LI N n h1 → Frm (kMd ct_X11_logJoin) h h1 → MCal KX20_logJoin yX20_logJoin 0 0 [(2, ((2448 : Nat) : Int)), (0, c), (3, (w2.toNat : Int))] h1 (mRD fun v h' => JJ zJ h' ∧ Frm (kMd ct_X20_logJoin) h1 h' ∧ ∃ r : UInt64, v = (r.toNat : Int) ∧ ∀ p, R8 p → okCmp p r) := by
  refine ⟨fun r => LJ (nl8 h c) (rg8 h c) (cy8 h c) w1 r, MCal.mono ?_ (c_lj11 I.1 I.2.2.2.2.2 c w1), fun w2 h1 a2 I1 F => MCal.mono ?_ (c_lj20 (h := h1) I1.1 I1.2.2.2.2.R c w2)⟩
  · rintro ⟨o1, o2, v⟩ h' ⟨e1, e2, e3, r, e4, e5⟩
    have e3 : h' = h := e3
    subst e3
    exact ⟨e1, e2, I.1, Frm.refl _ _, r, e4, e5⟩
  · rintro ⟨o1, o2, v⟩ h' ⟨e1, e2, J', F', r, e4, e5⟩
    refine ⟨e1, e2, J', F'.mono (by decide +kernel), r, e4, fun p hp => okCmp_of ?_⟩
    have bF : (kMd ct_X11_logJoin).all (fun m => zdis m (774, 791, 1, 0)) = true := by decide +kernel
    have ef : ∀ a k : Int, 774 ≤ a → a ≤ 791 → gz h1 a k = gz h a k := fun a k a0 a1 => F.at (fun m hm => List.all_eq_true.mp bF m hm) ⟨⟨a0, Or.inr a1⟩, Or.inl (by decide : (0 : Nat) < 1)⟩
    have al : AL w1 w2 := (AL_iff.mp a1).trans (AL_iff.mp a2).symm
    by_cases hc : 0 ≤ c ∧ c < 8
    · obtain ⟨x1, x2⟩ := I1.2.2.2.2.1 c hc.1 hc.2
      obtain ⟨y1, y2, y3⟩ := I.2.2.2.2.2 c hc.1 hc.2
      have n1 : ln8 h1 c = ln8 h c := ef 791 c (by decide) (by decide)
      have nE : nlR h1 c = nl8 h c := by
        rw [show nlR h1 c = lnR h1 c from if_pos hc, show nl8 h c = ln8 h c from if_pos hc, ← x1, n1]
      have nn : nl8 h c = ln8 h c := if_pos hc
      rw [nE] at e5
      have e6 : LJ (nl8 h c) (rg8 h c) (cy8 h c) w2 r := e5.congr fun k k0 k1 => by
        rw [nn] at k1
        obtain ⟨z1, z2⟩ := x2 k k0 (by omega)
        exact ⟨z1.symm.trans (ef _ k (by omega) (by omega)), z2.symm.trans (ef _ k (by omega) (by omega))⟩
      refine LJ.same (fun i j i0 ij jn => ?_) al hp e6
      rw [nn] at jn
      have bi := y2 i i0 (by omega)
      have bj := y2 j (by omega) jn
      refine F64_lt (by omega) (by omega) ?_
      have := dec_of y3 (j - i - 1).toNat i i0 (by omega)
      rw [show i + ((j - i - 1).toNat : Int) + 1 = j by omega] at this
      exact this
    · have n0 : nl8 h c = 0 := if_neg hc
      have m0 : nlR h1 c = 0 := if_neg hc
      rw [m0] at e5
      have hp : LJ (nl8 h c) (rg8 h c) (cy8 h c) w1 p := hp
      rw [n0] at hp
      exact LJ.same (fun i j i0 ij jn => by omega) al hp (e5.congr fun k k0 k1 => by omega)
