/-! logJoin of both desks answers the same -/
theorem zJ_f : (zJ.all fun k => zkpC zG [(2448, 2448, 0, 0)] 2628 (k, ([], [], [], []))) = true := by decide +kernel
theorem JJ.fault {h : MH} (J : JJ zJ h) (v : Int) : JJ zJ (sa h 2448 0 v) ∧ Frm [(2448, 2448, 0, 0)] h (sa h 2448 0 v) := by
  have F : Frm [(2448, 2448, 0, 0)] h (sa h 2448 0 v) := Frm.write (r := 2448) (i := 0) (by decide) (by decide) (by decide) List.mem_cons_self ⟨⟨by decide, Or.inr (by decide)⟩, Or.inr ⟨by decide, by decide⟩⟩
  have s : StrZ zT (sa h 2448 0 v) := StrZ.write (r := 2448) (i := 0) J.1 (by decide) (by decide +kernel) (by decide +kernel)
  exact ⟨⟨s, fun k hk => zGl_kp F J.1.1.1 (List.all_eq_true.mp zJ_pos k hk) (List.all_eq_true.mp zJ_f k hk) (J.2 k hk)⟩, F⟩
theorem c_lj11 {h : MH} (J : JJ zJ h) (q : LQb h) (c : Int) (w : UInt64) : MCal KX11_logJoin yX11_logJoin 0 0 [(2, ((4 : Nat) : Int)), (0, c), (3, (w.toNat : Int))] h (mRD fun v h' => h' = h ∧ ∃ r : UInt64, v = (r.toNat : Int) ∧ LJ (nl8 h c) (rg8 h c) (cy8 h c) w r) := by
  refine MCal.ofMW (Or.inr (Or.inl rfl)) ⟨cp_X11, rfl⟩ (Nat.le_of_ble_eq_true rfl) ?_
  have g : Str [(4, 27, 0), (618, 24, 0)] [(4, 4, 618)] h := str_of (by decide +kernel) J.1
  show MW KX11_logJoin _ 0 0 (pcA pgX11_logJoin 0) [(0, (2, ((4 : Nat) : Int))), (1, (0, c)), (2, (3, (w.toNat : Int)))] [] h
  refine hd_aload pkX11_logJoin rfl rfl (Int.natCast_nonneg _) ?_
  refine hd_getR (n := 618) pkX11_logJoin rfl (g.cell 0 rfl).1 (g.cell 0 rfl).2.1 (g.ref 0 rfl) ?_
  refine hd_iload pkX11_logJoin rfl rfl ?_
  refine m_dload_n (K := KX11_logJoin) (j := 2) (by decide +kernel) rfl ?_
  refine hd_pc (by decide +kernel : pcA pgX11_logJoin 3 + 1 = pcA pgX11_logJoin 4) ?_
  refine hd_callV pkX11_logJoin rfl (q := (KX8_bornBetween, yX8_bornBetween, 8, 2, 0)) rfl rfl (by decide +kernel) (As := [(0, c), (3, (w.toNat : Int))]) (rest := []) (c := 618) rfl rfl (Nat.le_of_ble_eq_true rfl) (g.cell 1 rfl).1 (g.cell 1 rfl).2.1 (w_born J q c w) (hd_bD (fun v h2 p => ?_))
  obtain ⟨rfl, p⟩ := p
  exact m_dreturn (K := KX11_logJoin) (by decide +kernel) rfl ⟨rfl, rfl, rfl, p⟩
set_option maxRecDepth 20000 in
theorem c_lj20 {h : MH} (J : JJ zJ h) (q : LQR h) (c : Int) (w : UInt64) : MCal KX20_logJoin yX20_logJoin 0 0 [(2, ((2448 : Nat) : Int)), (0, c), (3, (w.toNat : Int))] h (mRD fun v h' => JJ zJ h' ∧ Frm [(2448, 2448, 0, 0)] h h' ∧ ∃ r : UInt64, v = (r.toNat : Int) ∧ LJ (nlR h c) (rgR h c) (cyR h c) w r) := by
  refine MCal.ofMW (Or.inr (Or.inl rfl)) ⟨cp_X20, rfl⟩ (Nat.le_of_ble_eq_true rfl) ?_
  have g : Str [(2448, 36, 0), (2534, 34, 0)] [(2448, 5, 2534)] h := str_of (by decide +kernel) J.1
  show MW KX20_logJoin _ 0 0 (pcA pgX20_logJoin 0) [(0, (2, ((2448 : Nat) : Int))), (1, (0, c)), (2, (3, (w.toNat : Int)))] [] h
  refine hd_aload pkX20_logJoin rfl rfl (Int.natCast_nonneg _) ?_
  refine hd_ipush (z := 0) pkX20_logJoin rfl ?_
  refine hd_putI pkX20_logJoin rfl (g.cell 0 rfl).1 (g.cell 0 rfl).2.1 (fun h2 eh => ?_)
  obtain ⟨J2, F⟩ := J.fault 0
  replace eh : h2 = sa h 2448 0 0 := eh
  rw [← eh] at J2 F
  have g2 : Str [(2448, 36, 0), (2534, 34, 0)] [(2448, 5, 2534)] h2 := str_of (by decide +kernel) J2.1
  have e3 : ∀ r i : Int, 2540 ≤ r → r ≤ 2542 → gz h2 r i = gz h r i := fun r i r0 r1 => F.2.2 r i fun m hm y => by
    rw [List.mem_singleton.mp hm] at y
    have y1 : (2448 : Int) ≤ r ∧ ((2448 : Nat) = 0 ∨ r ≤ (2448 : Int)) := y.1
    omega
  have el : ∀ c : Int, lnR h2 c = lnR h c := fun c => e3 2540 c (by decide) (by decide)
  have er : ∀ c : Int, rgR h2 c = rgR h c := fun c => funext fun k => e3 2541 _ (by decide) (by decide)
  have ey : ∀ c : Int, cyR h2 c = cyR h c := fun c => funext fun k => e3 2542 _ (by decide) (by decide)
  have q2 : LQR h2 := fun c c0 c8 => by
    rw [el, er, ey]
    exact q c c0 c8
  refine hd_aload pkX20_logJoin rfl rfl (Int.natCast_nonneg _) ?_
  refine hd_getR (n := 2534) pkX20_logJoin rfl (g2.cell 0 rfl).1 (g2.cell 0 rfl).2.1 (g2.ref 0 rfl) ?_
  refine hd_iload pkX20_logJoin rfl rfl ?_
  refine m_dload_n (K := KX20_logJoin) (j := 2) (by decide +kernel) rfl ?_
  refine hd_pc (by decide +kernel : pcA pgX20_logJoin 6 + 1 = pcA pgX20_logJoin 7) ?_
  refine hd_callV pkX20_logJoin rfl (q := (KX18_logJoin, yX18_logJoin, 18, 2, 0)) rfl rfl (by decide +kernel) (As := [(0, c), (3, (w.toNat : Int))]) (rest := []) (c := 2534) rfl rfl (Nat.le_of_ble_eq_true rfl) (g2.cell 1 rfl).1 (g2.cell 1 rfl).2.1 (w_logJoin J2 q2 c w) (hd_bD (fun v h3 p => ?_))
  obtain ⟨rfl, r, hr, p⟩ := p
  have en : nlR h3 c = nlR h c := by
    unfold nlR
    rw [el]
  rw [en, er, ey] at p
  exact m_dreturn (K := KX20_logJoin) (by decide +kernel) rfl ⟨rfl, rfl, J2, F, r, hr, p⟩
theorem dec_of {n : Int} {R : Int → Int} (a : ∀ k : Int, 0 ≤ k → k + 1 < n → R (k + 1) < R k) : ∀ (d : Nat) (i : Int), 0 ≤ i → i + (d : Int) + 1 < n → R (i + (d : Int) + 1) < R i
  | 0, i, i0, h => by
    have := a i i0 (by omega)
    rw [show i + ((0 : Nat) : Int) + 1 = i + 1 by omega]
    exact this
  | d + 1, i, i0, h => by
    have h1 := dec_of a d i i0 (by omega)
    have h2 := a (i + (d : Int) + 1) (by omega) (by omega)
    rw [show i + ((d + 1 : Nat) : Int) + 1 = i + (d : Int) + 1 + 1 by omega]
    omega
theorem lj_pair {N n : Nat} {h : MH} (I : LI N n h) (c : Int) (z w1 : UInt64) (a1 : alike64 w1 z = true) :
    ∃ R8 : UInt64 → Prop, MCal KX11_logJoin yX11_logJoin 0 0 [(2, ((4 : Nat) : Int)), (0, c), (3, (w1.toNat : Int))] h (mRD fun v h' => JJ zJ h' ∧ Frm (kMd ct_X11_logJoin) h h' ∧ ∃ r : UInt64, v = (r.toNat : Int) ∧ R8 r) ∧
      ∀ (w2 : UInt64) (h1 : MH), alike64 w2 z = true → LI N n h1 → Frm (kMd ct_X11_logJoin) h h1 → MCal KX20_logJoin yX20_logJoin 0 0 [(2, ((2448 : Nat) : Int)), (0, c), (3, (w2.toNat : Int))] h1 (mRD fun v h' => JJ zJ h' ∧ Frm (kMd ct_X20_logJoin) h1 h' ∧ ∃ r : UInt64, v = (r.toNat : Int) ∧ ∀ p, R8 p → okCmp p r) := by
  refine ⟨fun r => LJ (nl8 h c) (rg8 h c) (cy8 h c) w1 r, MCal.mono ?_ (c_lj11 I.1 I.2.2.2.2.2 c w1), fun w2 h1 a2 I1 F => MCal.mono ?_ (c_lj20 (h := h1) I1.1 I1.2.2.2.2.R c w2)⟩
  · rintro ⟨o1, o2, v⟩ h' ⟨e1, e2, e3, r, e4, e5⟩
    have e3 : h' = h := e3
    subst e3
    exact ⟨e1, e2, I.1, Frm.refl _ _, r, e4, e5⟩
  · rintro ⟨o1, o2, v⟩ h' ⟨e1, e2, J', F', r, e4, e5⟩
    refine ⟨e1, e2, J', F'.mono (by decide +kernel), r, e4, fun p hp => okCmp_of ?_⟩
    have bF : (kMd ct_X11_logJoin).all (fun m => zdis m (774, 791, 1, 0)) = true := by decide +kernel
    have ef : ∀ a k : Int, 774 ≤ a → a ≤ 791 → gz h1 a k = gz h a k := fun a k a0 a1 => F.at (fun m hm => List.all_eq_true.mp bF m hm) ⟨⟨a0, Or.inr a1⟩, Or.inl (by decide : (0 : Nat) < 1)⟩
    have al : AL w1 w2 := (AL_iff.mp a1).trans (AL_iff.mp a2).symm
    by_cases hc : 0 ≤ c ∧ c < 8
    · obtain ⟨x1, x2⟩ := I1.2.2.2.2.1 c hc.1 hc.2
      obtain ⟨y1, y2, y3⟩ := I.2.2.2.2.2 c hc.1 hc.2
      have n1 : ln8 h1 c = ln8 h c := ef 791 c (by decide) (by decide)
      have nE : nlR h1 c = nl8 h c := by
        rw [show nlR h1 c = lnR h1 c from if_pos hc, show nl8 h c = ln8 h c from if_pos hc, ← x1, n1]
      have nn : nl8 h c = ln8 h c := if_pos hc
      rw [nE] at e5
      have e6 : LJ (nl8 h c) (rg8 h c) (cy8 h c) w2 r := e5.congr fun k k0 k1 => by
        rw [nn] at k1
        obtain ⟨z1, z2⟩ := x2 k k0 (by omega)
        exact ⟨z1.symm.trans (ef _ k (by omega) (by omega)), z2.symm.trans (ef _ k (by omega) (by omega))⟩
      refine LJ.same (fun i j i0 ij jn => ?_) al hp e6
      rw [nn] at jn
      have bi := y2 i i0 (by omega)
      have bj := y2 j (by omega) jn
      refine F64_lt (by omega) (by omega) ?_
      have := dec_of y3 (j - i - 1).toNat i i0 (by omega)
      rw [show i + ((j - i - 1).toNat : Int) + 1 = j by omega] at this
      exact this
    · have n0 : nl8 h c = 0 := if_neg hc
      have m0 : nlR h1 c = 0 := if_neg hc
      rw [m0] at e5
      have hp : LJ (nl8 h c) (rg8 h c) (cy8 h c) w1 p := hp
      rw [n0] at hp
      exact LJ.same (fun i j i0 ij jn => by omega) al hp (e5.congr fun k k0 k1 => by omega)
def P11 (p0 p1 p2 p3 : Int) (h h' : MH) : Prop := JJ zJ h' ∧ h.1 ≤ h'.1 ∧ ((h'.2 0).1 = (h.2 0).1 ∧ (h'.2 0).2.1 = (h.2 0).2.1) ∧ gz h' 1319 2 ≤ gz h 1319 2 + 1 ∧ gz h' 2570 6 = gz h 2570 6 ∧ nxL p0 p1 p2 p3 (ln8 h) (rg8 h) (cy8 h) (ln8 h') (rg8 h') (cy8 h') ∧ (∀ j : Int, 0 ≤ j → j < 8 → lnR h' j = lnR h j ∧ ∀ k : Int, rgR h' j k = rgR h j k ∧ cyR h' j k = cyR h j k) ∧ ∀ j : Int, 0 ≤ j → j < 448 → ga h' 0 j = ga h 0 j
/-- the sizes that the haul's numbers keep to -/
theorem sz_ok {h : MH} (J : JJ zJ h) : (0 ≤ gz h 35 0 ∧ gz h 35 0 ≤ 8) ∧ (0 ≤ gz h 35 1 ∧ gz h 35 1 ≤ 4) ∧ (0 ≤ gz h 35 2 ∧ gz h 35 2 ≤ 8) := by
  refine ⟨?_, ?_, ?_⟩
  · have q := clF (r := 35) (j := 0) (J.2 zi_X4_sz0 (by decide +kernel)) (zG_is (by decide +kernel : (match zG.1 zi_X4_sz0 with
      | some x => zBeq x ([60001], [((35, 35, 1, 0), (35, []), (0, []), (0, [(60001, 1)]))], [], [(0, [(60001, 1)]), (8, [(60001, -1)])])
      | none => false) = true)) (by unfold inZ; decide)
    have z1 : (0 : Int) ≤ 0 + (1 * gz h 35 0 + 0) := q _ List.mem_cons_self
    have z2 : (0 : Int) ≤ 8 + (-1 * gz h 35 0 + 0) := q _ (List.mem_cons_of_mem _ List.mem_cons_self)
    omega
  · have q := clF (r := 35) (j := 1) (J.2 zi_X4_sz1 (by decide +kernel)) (zG_is (by decide +kernel : (match zG.1 zi_X4_sz1 with
      | some x => zBeq x ([60001], [((35, 35, 1, 0), (35, []), (1, []), (0, [(60001, 1)]))], [], [(0, [(60001, 1)]), (4, [(60001, -1)])])
      | none => false) = true)) (by unfold inZ; decide)
    have z1 : (0 : Int) ≤ 0 + (1 * gz h 35 1 + 0) := q _ List.mem_cons_self
    have z2 : (0 : Int) ≤ 4 + (-1 * gz h 35 1 + 0) := q _ (List.mem_cons_of_mem _ List.mem_cons_self)
    omega
  · have q := clF (r := 35) (j := 2) (J.2 zi_X4_sz2 (by decide +kernel)) (zG_is (by decide +kernel : (match zG.1 zi_X4_sz2 with
      | some x => zBeq x ([60001], [((35, 35, 1, 0), (35, []), (2, []), (0, [(60001, 1)]))], [], [(0, [(60001, 1)]), (8, [(60001, -1)])])
      | none => false) = true)) (by unfold inZ; decide)
    have z1 : (0 : Int) ≤ 0 + (1 * gz h 35 2 + 0) := q _ List.mem_cons_self
    have z2 : (0 : Int) ≤ 8 + (-1 * gz h 35 2 + 0) := q _ (List.mem_cons_of_mem _ List.mem_cons_self)
    omega
def dAct (M : List ZR) : Bool := dLQ M && (dPh M && (M.all (fun m => Nat.blt 0 m.1) && M.all fun m => zdis m (2570, 2570, 6, 6)))
def dJ2 (M : List ZR) : Bool := M.all fun m => zdis m (1319, 1319, 2, 2)
theorem P11.ofF {p0 c w m : Int} {M : List ZR} {h h' : MH} (b : dAct M = true) (h0 : p0 ≠ 406) (J : JJ zJ h) (J' : JJ zJ h') (F : Frm M h h') (j2 : gz h' 1319 2 ≤ gz h 1319 2 + 1) : P11 p0 c w m h h' ∧ Phi h' = Phi h := by
  have n : 2628 ≤ h.1 := J.1.1.1
  obtain ⟨b1, b⟩ := andB b
  obtain ⟨b2, b⟩ := andB b
  obtain ⟨b3, b4⟩ := andB b
  have d1 := fun m hm => andB (List.all_eq_true.mp b1 m hm)
  have d2 := fun m hm => andB (d1 m hm).2
  have d3 := fun m hm => andB (d2 m hm).2
  have e4 : ∀ r k : Int, 2540 ≤ r → r ≤ 2542 → gz h' r k = gz h r k := fun r k r0 r1 => F.at (fun m hm => (d3 m hm).2) ⟨⟨r0, Or.inr r1⟩, Or.inl (by decide : (0 : Nat) < 1)⟩
  refine ⟨⟨J', F.1, F.2.1 0 (by omega), j2, F.at (fun m hm => List.all_eq_true.mp b4 m hm) ⟨⟨by decide, Or.inr (by decide)⟩, Or.inr ⟨by decide, by decide⟩⟩, ⟨fun e => absurd e h0, fun _ => ⟨fun j j0 j8 => F.at (fun m hm => (d1 m hm).1) ⟨⟨by decide, Or.inr (by decide)⟩, Or.inl (by decide : (0 : Nat) < 1)⟩, fun j k j0 j8 _ _ => ⟨F.at (fun m hm => (d2 m hm).1) ⟨⟨by show (774 : Int) ≤ 774 + j; omega, Or.inr (by show (774 : Int) + j ≤ 781; omega)⟩, Or.inl (by decide : (0 : Nat) < 1)⟩, F.at (fun m hm => (d3 m hm).1) ⟨⟨by show (783 : Int) ≤ 783 + j; omega, Or.inr (by show (783 : Int) + j ≤ 790; omega)⟩, Or.inl (by decide : (0 : Nat) < 1)⟩⟩⟩⟩, fun j j0 j8 => ⟨e4 2540 j (by decide) (by decide), fun k => ⟨e4 2541 _ (by decide) (by decide), e4 2542 _ (by decide) (by decide)⟩⟩, fun j j0 j1 => ?_⟩, Phi.frm J b2 F⟩
  rw [← ga_gz (c := 0) j0 (by omega), ← ga_gz (c := 0) j0 (by omega)]
  exact F.2.2 _ j fun m hm q => by
    have := bltN (List.all_eq_true.mp b3 m hm)
    have q1 : (m.1 : Int) ≤ ((0 : Nat) : Int) := q.1.1
    omega
/-- owed: a way is searched; the room that its labels take is paid ahead -/
theorem act11_way {N n : Nat} {h : MH} (I : LI N n h) (hn : n ≤ 63) (p0 p1 p2 p3 p4 p5 : Int) (h0 : 0 ≤ p0 ∧ p0 ≤ 99) :
    ∃ mc ms : Nat, mc ≤ 8 ∧ ms ≤ 96000 + Phi h ∧ MCal KX11_act yX11_act mc ms [(2, ((4 : Nat) : Int)), (0, p0), (0, p1), (0, p2), (0, p3), (0, p4), (0, p5)] h (mRL fun _ h' => P11 p0 p1 p2 p3 h h' ∧ ms + Phi h' ≤ 96000 + Phi h) := sorry
/-- a class gets a line -/
theorem act11_406 {N n : Nat} {h : MH} (I : LI N n h) (p1 p2 p3 p4 p5 : Int) :
    MCal KX11_act yX11_act 0 0 [(2, ((4 : Nat) : Int)), (0, 406), (0, p1), (0, p2), (0, p3), (0, p4), (0, p5)] h (mRL fun _ h' => P11 406 p1 p2 p3 h h' ∧ Phi h' = Phi h) := by
  have J : JJ zJ h := I.1
  have nn : 2628 ≤ h.1 := J.1.1.1
  have q : LQb h := I.2.2.2.2.2
  have L : ∀ (x : MH) (j : Int), 0 ≤ j → j < 8 → ln8 x j = ga x 791 j := fun x j j0 j8 => ga_gz (c := 791) j0 (by omega)
  have R : ∀ (x : MH) (j k : Int), 0 ≤ j → j < 8 → 0 ≤ k → k < 8 → rg8 x j k = ga x (rC 774 j) k := fun x j k j0 j8 k0 k8 => by
    show gz x (774 + j) k = _
    rw [show 774 + j = ((rC 774 j : Nat) : Int) by unfold rC; omega]
    exact ga_gz k0 (by omega)
  have Y : ∀ (x : MH) (j k : Int), 0 ≤ j → j < 8 → 0 ≤ k → k < 8 → cy8 x j k = ga x (rC 783 j) k := fun x j k j0 j8 k0 k8 => by
    show gz x (783 + j) k = _
    rw [show 783 + j = ((rC 783 j : Nat) : Int) by unfold rC; omega]
    exact ga_gz k0 (by omega)
  have hl : ∀ j : Int, 0 ≤ j → j < 8 → 0 ≤ ga h 791 j ∧ ga h 791 j ≤ 4 := fun j j0 j8 => by
    have w := (q j j0 j8).1
    rw [L h j j0 j8] at w
    exact w
  refine MCal.mono ?_ (h_X11_act406 (c := p1) (w := p2) (m := p3) (p4 := p4) (p5 := p5) hl J.1)
  rintro ⟨o1, o2, v⟩ h' ⟨e1, e2, a⟩
  obtain ⟨J', F⟩ := J.l8 a
  have gzr : ∀ r i : Int, (r < 774 ∨ 791 < r) → gz h' r i = gz h r i := fun r i hr => F.2.2 r i fun m hm y => by
    simp only [List.mem_cons, List.not_mem_nil, or_false] at hm
    rcases hm with rfl | rfl | rfl
    · have y1 : (774 : Int) ≤ r ∧ ((781 : Nat) = 0 ∨ r ≤ (781 : Int)) := y.1
      omega
    · have y1 : (783 : Int) ≤ r ∧ ((790 : Nat) = 0 ∨ r ≤ (790 : Int)) := y.1
      omega
    · have y1 : (791 : Int) ≤ r ∧ ((791 : Nat) = 0 ∨ r ≤ (791 : Int)) := y.1
      omega
  refine ⟨e1, e2, ⟨J', F.1, F.2.1 0 (by omega), by rw [gzr 1319 2 (by decide)]; omega, gzr 2570 6 (by decide), ⟨fun _ => ?_, fun z => absurd rfl z⟩, fun j j0 j8 => ⟨gzr 2540 j (by decide), fun k => ⟨gzr 2541 _ (by decide), gzr 2542 _ (by decide)⟩⟩, fun j j0 j1 => ?_⟩, Phi.frm I.1 (by decide +kernel) F⟩
  · have okk : ok406 (ln8 h) (rg8 h) (cy8 h) p1 p2 p3 ↔ ok8 h p1 p2 p3 := by
      refine ⟨fun ⟨x1, x2, x3, x4, x5, x6, x7, x8⟩ => ?_, fun ⟨x1, x2, x3, x4, x5, x6, x7, x8⟩ => ?_⟩
      · rw [L h p1 x1 (by omega)] at x7 x8
        have k0 := hl p1 x1 (by omega)
        refine ⟨x1, x2, x3, x4, x5, x6, x7, fun z => ?_⟩
        have w := x8 z
        rw [R h p1 _ x1 (by omega) (by omega) (by omega), Y h p1 _ x1 (by omega) (by omega) (by omega)] at w
        exact w
      · have k0 := hl p1 x1 (by omega)
        refine ⟨x1, x2, x3, x4, x5, x6, by rw [L h p1 x1 (by omega)]; exact x7, fun z => ?_⟩
        rw [L h p1 x1 (by omega)] at z ⊢
        rw [R h p1 _ x1 (by omega) (by omega) (by omega), Y h p1 _ x1 (by omega) (by omega) (by omega)]
        exact x8 z
    obtain ⟨_, _, r⟩ := a
    rcases r with ⟨o, a1, a2, a3, a4, a5⟩ | ⟨no, rfl⟩
    · have c0 := o.1
      have c7 := o.2.1
      have k4 := o.2.2.2.2.2.2.1
      have k0 := hl p1 c0 (by omega)
      refine Or.inl ⟨okk.mpr o, ?_, ?_, ?_, fun j j0 j8 n => ?_, fun j k j0 j8 k0' kl => ?_⟩
      · rw [L h' p1 c0 (by omega), L h p1 c0 (by omega)]
        exact a1
      · rw [L h p1 c0 (by omega), R h' p1 _ c0 (by omega) (by omega) (by omega)]
        exact a2
      · rw [L h p1 c0 (by omega), Y h' p1 _ c0 (by omega) (by omega) (by omega)]
        exact a3
      · rw [L h' j j0 j8, L h j j0 j8]
        exact a4 j j0 n
      · rw [L h j j0 j8] at kl
        have kj := hl j j0 j8
        rw [R h' j k j0 j8 k0' (by omega), R h j k j0 j8 k0' (by omega), Y h' j k j0 j8 k0' (by omega), Y h j k j0 j8 k0' (by omega)]
        refine a5 j k j0 j8 k0' ?_
        by_cases z : j = p1
        · subst z
          exact Or.inr (by omega)
        · exact Or.inl z
    · exact Or.inr ⟨fun z => no (okk.mp z), fun _ _ _ => rfl, fun _ _ _ _ _ _ => ⟨rfl, rfl⟩⟩
  · rw [← ga_gz (c := 0) j0 (by omega), ← ga_gz (c := 0) j0 (by omega)]
    exact gzr 0 j (by decide)
set_option maxRecDepth 20000 in
set_option maxHeartbeats 4000000 in
/-- one call of act: it comes back, or it throws -/
theorem act11 {N n : Nat} {h : MH} (I : LI N n h) (hn : n ≤ 63) (p0 p1 p2 p3 p4 p5 : Int) :
    (∃ mc ms : Nat, mc ≤ 8 ∧ ms ≤ 96000 + Phi h ∧ MCal KX11_act yX11_act mc ms [(2, ((4 : Nat) : Int)), (0, p0), (0, p1), (0, p2), (0, p3), (0, p4), (0, p5)] h (mRL fun _ h' => P11 p0 p1 p2 p3 h h' ∧ ms + Phi h' ≤ 96000 + Phi h)) ∨
    ∃ e : Nat, 1 ≤ e ∧ e ≤ 4 ∧ p0 ≠ 406 ∧ MCalX (kTx KX11_act 10 2200) yX11_act 1 6 [(2, ((4 : Nat) : Int)), (0, p0), (0, p1), (0, p2), (0, p3), (0, p4), (0, p5)] h (XQ e h) := by
  have J : JJ zJ h := I.1
  have nn : 2628 ≤ h.1 := J.1.1.1
  have a1 : gz h 161 0 = ga h 161 0 := ga_gz (c := 161) (by decide) (by decide)
  have a2 : gz h 833 0 = ga h 833 0 := ga_gz (c := 833) (by decide) (by decide)
  have a3 : gz h 1982 5 = ga h 1982 5 := ga_gz (c := 1982) (by decide) (by decide)
  have lift : ∀ {mc ms : Nat} {M : List ZR}, MCal KX11_act yX11_act mc ms [(2, ((4 : Nat) : Int)), (0, p0), (0, p1), (0, p2), (0, p3), (0, p4), (0, p5)] h (mRL fun _ h2 => JJ zJ h2 ∧ Frm M h h2) → (dAct M && dJ2 M) = true → p0 ≠ 406 → mc ≤ 8 → ms ≤ 96000 → ∃ mc ms : Nat, mc ≤ 8 ∧ ms ≤ 96000 + Phi h ∧ MCal KX11_act yX11_act mc ms [(2, ((4 : Nat) : Int)), (0, p0), (0, p1), (0, p2), (0, p3), (0, p4), (0, p5)] h (mRL fun _ h' => P11 p0 p1 p2 p3 h h' ∧ ms + Phi h' ≤ 96000 + Phi h) := fun {mc ms M} z b h0 h1 h2 => by
    refine ⟨mc, ms, h1, by omega, MCal.mono ?_ z⟩
    rintro ⟨o1, o2, v⟩ h' ⟨e1, e2, J', F⟩
    obtain ⟨bA, bJ⟩ := andB b
    have ej : gz h' 1319 2 = gz h 1319 2 := F.at (fun m hm => List.all_eq_true.mp bJ m hm) ⟨⟨by decide, Or.inr (by decide)⟩, Or.inr ⟨by decide, by decide⟩⟩
    obtain ⟨P, ph⟩ := P11.ofF (p0 := p0) (c := p1) (w := p2) (m := p3) bA h0 J J' F (by omega)
    exact ⟨e1, e2, P, by rw [ph]; omega⟩
  by_cases c1 : p0 < 0
  · exact Or.inl (lift (ap_X11_act_n J p0 p1 p2 p3 p4 p5 (by omega)) (by decide +kernel) (by omega) (by decide) (by decide))
  by_cases c2 : p0 ≤ 99
  · exact Or.inl (act11_way I hn p0 p1 p2 p3 p4 p5 ⟨by omega, by omega⟩)
  by_cases c3 : p0 ≤ 107
  · exact Or.inl (lift (ap_X11_act_k1lo J p0 p1 p2 p3 p4 p5 (by omega) (by omega)) (by decide +kernel) (by omega) (by decide) (by decide))
  by_cases c4 : p0 ≤ 108
  · obtain rfl : p0 = 108 := by omega
    obtain ⟨s0, s1, s2⟩ := sz_ok J
    have b0 : gz h 35 0 = ga h 35 0 := ga_gz (c := 35) (by decide) (by decide)
    have b1 : gz h 35 1 = ga h 35 1 := ga_gz (c := 35) (by decide) (by decide)
    have b2 : gz h 35 2 = ga h 35 2 := ga_gz (c := 35) (by decide) (by decide)
    by_cases t : p1 < (gz h 35 0 + gz h 35 1) * gz h 35 2
    · exact Or.inr ⟨3, by decide, by decide, by decide, tx_act_108 (by omega) (by omega) (by rw [← b0, ← b1, ← b2]; exact t) J⟩
    generalize hs : gz h 35 0 + gz h 35 1 = s at t
    rcases (show s = 0 ∨ s = 1 ∨ s = 2 ∨ s = 3 ∨ s = 4 ∨ s = 5 ∨ s = 6 ∨ s = 7 ∨ s = 8 ∨ s = 9 ∨ s = 10 ∨ s = 11 ∨ s = 12 by omega) with rfl | rfl | rfl | rfl | rfl | rfl | rfl | rfl | rfl | rfl | rfl | rfl | rfl
    · exact Or.inl (lift (ap_X11_act_k1s0 J 108 p1 p2 p3 p4 p5 (by omega) (by omega) (by omega) (by omega) (by omega)) (by decide +kernel) (by decide) (by decide) (by decide))
    · exact Or.inl (lift (ap_X11_act_k1s1 J 108 p1 p2 p3 p4 p5 (by omega) (by omega) (by omega) (by omega) (by omega)) (by decide +kernel) (by decide) (by decide) (by decide))
    · exact Or.inl (lift (ap_X11_act_k1s2 J 108 p1 p2 p3 p4 p5 (by omega) (by omega) (by omega) (by omega) (by omega)) (by decide +kernel) (by decide) (by decide) (by decide))
    · exact Or.inl (lift (ap_X11_act_k1s3 J 108 p1 p2 p3 p4 p5 (by omega) (by omega) (by omega) (by omega) (by omega)) (by decide +kernel) (by decide) (by decide) (by decide))
    · exact Or.inl (lift (ap_X11_act_k1s4 J 108 p1 p2 p3 p4 p5 (by omega) (by omega) (by omega) (by omega) (by omega)) (by decide +kernel) (by decide) (by decide) (by decide))
    · exact Or.inl (lift (ap_X11_act_k1s5 J 108 p1 p2 p3 p4 p5 (by omega) (by omega) (by omega) (by omega) (by omega)) (by decide +kernel) (by decide) (by decide) (by decide))
    · exact Or.inl (lift (ap_X11_act_k1s6 J 108 p1 p2 p3 p4 p5 (by omega) (by omega) (by omega) (by omega) (by omega)) (by decide +kernel) (by decide) (by decide) (by decide))
    · exact Or.inl (lift (ap_X11_act_k1s7 J 108 p1 p2 p3 p4 p5 (by omega) (by omega) (by omega) (by omega) (by omega)) (by decide +kernel) (by decide) (by decide) (by decide))
    · exact Or.inl (lift (ap_X11_act_k1s8 J 108 p1 p2 p3 p4 p5 (by omega) (by omega) (by omega) (by omega) (by omega)) (by decide +kernel) (by decide) (by decide) (by decide))
    · exact Or.inl (lift (ap_X11_act_k1s9 J 108 p1 p2 p3 p4 p5 (by omega) (by omega) (by omega) (by omega) (by omega)) (by decide +kernel) (by decide) (by decide) (by decide))
    · exact Or.inl (lift (ap_X11_act_k1s10 J 108 p1 p2 p3 p4 p5 (by omega) (by omega) (by omega) (by omega) (by omega)) (by decide +kernel) (by decide) (by decide) (by decide))
    · exact Or.inl (lift (ap_X11_act_k1s11 J 108 p1 p2 p3 p4 p5 (by omega) (by omega) (by omega) (by omega) (by omega)) (by decide +kernel) (by decide) (by decide) (by decide))
    · exact Or.inl (lift (ap_X11_act_k1s12 J 108 p1 p2 p3 p4 p5 (by omega) (by omega) (by omega) (by omega) (by omega)) (by decide +kernel) (by decide) (by decide) (by decide))
  by_cases c5 : p0 ≤ 199
  · exact Or.inl (lift (ap_X11_act_k1hi J p0 p1 p2 p3 p4 p5 (by omega) (by omega)) (by decide +kernel) (by omega) (by decide) (by decide))
  by_cases c6 : p0 ≤ 201
  · exact Or.inl (lift (ap_X11_act_k2lo J p0 p1 p2 p3 p4 p5 (by omega) (by omega)) (by decide +kernel) (by omega) (by decide) (by decide))
  by_cases c7 : p0 ≤ 202
  · obtain rfl : p0 = 202 := by omega
    by_cases t : p1 < 0 ∨ ga h 161 0 ≤ p1
    · exact Or.inr ⟨1, by decide, by decide, by decide, tx_act_202 t J⟩
    · exact Or.inl (lift (ap_X11_act_k2m2 J 202 p1 p2 p3 p4 p5 (by omega) (by omega) (by omega) (by omega)) (by decide +kernel) (by decide) (by decide) (by decide))
  by_cases c8 : p0 ≤ 203
  · obtain rfl : p0 = 203 := by omega
    by_cases t : p1 < 0 ∨ ga h 161 0 < p1
    · exact Or.inr ⟨1, by decide, by decide, by decide, tx_act_203 t J⟩
    · exact Or.inl (lift (ap_X11_act_k2m3 J 203 p1 p2 p3 p4 p5 (by omega) (by omega) (by omega) (by omega)) (by decide +kernel) (by decide) (by decide) (by decide))
  by_cases c9 : p0 ≤ 204
  · obtain rfl : p0 = 204 := by omega
    by_cases t : p1 < 0 ∨ ga h 161 0 ≤ p1
    · exact Or.inr ⟨1, by decide, by decide, by decide, tx_act_204 t J⟩
    · exact Or.inl (lift (ap_X11_act_k2m4 J 204 p1 p2 p3 p4 p5 (by omega) (by omega) (by omega) (by omega)) (by decide +kernel) (by decide) (by decide) (by decide))
  by_cases c10 : p0 ≤ 299
  · exact Or.inl (lift (ap_X11_act_k2hi J p0 p1 p2 p3 p4 p5 (by omega) (by omega)) (by decide +kernel) (by omega) (by decide) (by decide))
  by_cases c11 : p0 ≤ 399
  · exact Or.inl (lift (ap_X11_act_k3 J p0 p1 p2 p3 p4 p5 (by omega) (by omega)) (by decide +kernel) (by omega) (by decide) (by decide))
  by_cases c12 : p0 ≤ 405
  · exact Or.inl (lift (ap_X11_act_k4lo J p0 p1 p2 p3 p4 p5 (by omega) (by omega)) (by decide +kernel) (by omega) (by decide) (by decide))
  by_cases c13 : p0 ≤ 406
  · obtain rfl : p0 = 406 := by omega
    refine Or.inl ⟨0, 0, by decide, by omega, MCal.mono ?_ (act11_406 I p1 p2 p3 p4 p5)⟩
    rintro ⟨o1, o2, v⟩ h' ⟨e1, e2, P, ph⟩
    exact ⟨e1, e2, P, by rw [ph]; omega⟩
  by_cases c14 : p0 ≤ 499
  · exact Or.inl (lift (ap_X11_act_k4hi J p0 p1 p2 p3 p4 p5 (by omega) (by omega)) (by decide +kernel) (by omega) (by decide) (by decide))
  by_cases c15 : p0 ≤ 500
  · obtain rfl : p0 = 500 := by omega
    by_cases t : p1 < 0
    · exact Or.inr ⟨4, by decide, by decide, by decide, tx_act_500n t J⟩
    by_cases t2 : p1 < 1 ∨ 6 < p1
    · exact Or.inr ⟨2, by decide, by decide, by decide, tx_act_500i ⟨by omega, t2⟩ J⟩
    · exact Or.inl (lift (ap_X11_act_k5m0 J 500 p1 p2 p3 p4 p5 (by omega) (by omega) (by omega) (by omega)) (by decide +kernel) (by decide) (by decide) (by decide))
  by_cases c16 : p0 ≤ 501
  · obtain rfl : p0 = 501 := by omega
    by_cases t : p1 < 0 ∨ ga h 833 0 ≤ p1
    · exact Or.inr ⟨1, by decide, by decide, by decide, tx_act_501a t J⟩
    by_cases t2 : p2 < 0 ∨ ga h 833 0 ≤ p2
    · exact Or.inr ⟨1, by decide, by decide, by decide, tx_act_501b (by omega) t2 J⟩
    · exact Or.inl (lift (ap_X11_act_k5m1 J 501 p1 p2 p3 p4 p5 (by omega) (by omega) (by omega) (by omega) (by omega) (by omega)) (by decide +kernel) (by decide) (by decide) (by decide))
  by_cases c17 : p0 ≤ 502
  · obtain rfl : p0 = 502 := by omega
    by_cases t : p1 < 0 ∨ ga h 833 0 ≤ p1
    · exact Or.inr ⟨1, by decide, by decide, by decide, tx_act_502 t J⟩
    · exact Or.inl (lift (ap_X11_act_k5m2 J 502 p1 p2 p3 p4 p5 (by omega) (by omega) (by omega) (by omega)) (by decide +kernel) (by decide) (by decide) (by decide))
  by_cases c18 : p0 ≤ 503
  · obtain rfl : p0 = 503 := by omega
    by_cases t : p1 < 0 ∨ ga h 833 0 ≤ p1
    · exact Or.inr ⟨1, by decide, by decide, by decide, tx_act_503 t J⟩
    · exact Or.inl (lift (ap_X11_act_k5m2 J 503 p1 p2 p3 p4 p5 (by omega) (by omega) (by omega) (by omega)) (by decide +kernel) (by decide) (by decide) (by decide))
  by_cases c19 : p0 ≤ 599
  · exact Or.inl (lift (ap_X11_act_k5hi J p0 p1 p2 p3 p4 p5 (by omega) (by omega)) (by decide +kernel) (by omega) (by decide) (by decide))
  by_cases c20 : p0 ≤ 699
  · have i2 := I.2.2.1
    refine Or.inl ⟨1, 10216, by decide, by omega, MCal.mono ?_ (ap_X11_act_k6 J p0 p1 p2 p3 p4 p5 (by omega) (by omega) (by omega))⟩
    rintro ⟨o1, o2, v⟩ h' ⟨e1, e2, J', F, j2⟩
    obtain ⟨P, ph⟩ := P11.ofF (p0 := p0) (c := p1) (w := p2) (m := p3) (by decide +kernel) (by omega) J J' F j2
    exact ⟨e1, e2, P, by rw [ph]; omega⟩
  by_cases c21 : p0 ≤ 721
  · exact Or.inl (lift (ap_X11_act_k7lo J p0 p1 p2 p3 p4 p5 (by omega) (by omega)) (by decide +kernel) (by omega) (by decide) (by decide))
  by_cases c22 : p0 ≤ 722
  · obtain rfl : p0 = 722 := by omega
    by_cases t : p1 < 0 ∨ ga h 1982 5 ≤ p1
    · exact Or.inr ⟨1, by decide, by decide, by decide, tx_act_722 t J⟩
    · exact Or.inl (lift (ap_X11_act_k7m J 722 p1 p2 p3 p4 p5 (by omega) (by omega) (by omega) (by omega)) (by decide +kernel) (by decide) (by decide) (by decide))
  by_cases c23 : p0 ≤ 799
  · exact Or.inl (lift (ap_X11_act_k7hi J p0 p1 p2 p3 p4 p5 (by omega) (by omega)) (by decide +kernel) (by omega) (by decide) (by decide))
  exact Or.inl (lift (ap_X11_act_d J p0 p1 p2 p3 p4 p5 (by omega)) (by decide +kernel) (by omega) (by decide) (by decide))
/-- where an act of the reference may write: the lines of the classes too -/
def m20A : List ZR := (2540, 2542, 1, 0) :: kMd ct_X20_act
set_option maxRecDepth 20000 in
set_option maxHeartbeats 4000000 in
theorem act20 {N n : Nat} {h : MH} (J : JJ zJ h) (hj : gz h 2570 6 ≤ 95) (p0 p1 p2 p3 p4 p5 : Int) :
    MCal KX20_act yX20_act 0 0 [(2, ((2448 : Nat) : Int)), (0, p0), (0, p1), (0, p2), (0, p3), (0, p4), (0, p5)] h (mRL fun _ h' => (JJ zJ h' ∧ Frm m20A h h' ∧ gz h' 2570 6 ≤ gz h 2570 6 + 1) ∧ nxL p0 p1 p2 p3 (lnR h) (rgR h) (cyR h) (lnR h') (rgR h') (cyR h')) := by
  have lift : ∀ {M : List ZR}, MCal KX20_act yX20_act 0 0 [(2, ((2448 : Nat) : Int)), (0, p0), (0, p1), (0, p2), (0, p3), (0, p4), (0, p5)] h (mRL fun _ h2 => JJ zJ h2 ∧ Frm M h h2 ∧ gz h2 2570 6 ≤ gz h 2570 6 + 1) → (zsubM M m20A && M.all fun m => zdis m (2540, 2542, 1, 0)) = true → p0 ≠ 406 → MCal KX20_act yX20_act 0 0 [(2, ((2448 : Nat) : Int)), (0, p0), (0, p1), (0, p2), (0, p3), (0, p4), (0, p5)] h (mRL fun _ h' => (JJ zJ h' ∧ Frm m20A h h' ∧ gz h' 2570 6 ≤ gz h 2570 6 + 1) ∧ nxL p0 p1 p2 p3 (lnR h) (rgR h) (cyR h) (lnR h') (rgR h') (cyR h')) := fun {M} z b n0 => by
    refine MCal.mono ?_ z
    rintro ⟨o1, o2, v⟩ h' ⟨e1, e2, J', F, j2⟩
    obtain ⟨b1, b2⟩ := andB b
    have e4 : ∀ r k : Int, 2540 ≤ r → r ≤ 2542 → gz h' r k = gz h r k := fun r k r0 r1 => F.at (fun m hm => List.all_eq_true.mp b2 m hm) ⟨⟨r0, Or.inr r1⟩, Or.inl (by decide : (0 : Nat) < 1)⟩
    exact ⟨e1, e2, ⟨J', F.mono b1, j2⟩, fun e => absurd e n0, fun _ => ⟨fun j _ _ => e4 2540 j (by decide) (by decide), fun j k _ _ _ _ => ⟨e4 2541 _ (by decide) (by decide), e4 2542 _ (by decide) (by decide)⟩⟩⟩
  by_cases c1 : p0 < 0
  · exact lift (ap_X20_act_n J p0 p1 p2 p3 p4 p5 (by omega) (by omega)) (by decide +kernel) (by omega)
  by_cases d0 : p0 ≤ 99
  · exact lift (ap_X20_act_k0 J p0 p1 p2 p3 p4 p5 (by omega) (by omega) (by omega)) (by decide +kernel) (by omega)
  by_cases d100 : p0 ≤ 199
  · exact lift (ap_X20_act_k1 J p0 p1 p2 p3 p4 p5 (by omega) (by omega) (by omega)) (by decide +kernel) (by omega)
  by_cases d200 : p0 ≤ 299
  · exact lift (ap_X20_act_k2 J p0 p1 p2 p3 p4 p5 (by omega) (by omega) (by omega)) (by decide +kernel) (by omega)
  by_cases d300 : p0 ≤ 399
  · exact lift (ap_X20_act_k3 J p0 p1 p2 p3 p4 p5 (by omega) (by omega) (by omega)) (by decide +kernel) (by omega)
  by_cases d400 : p0 ≤ 405
  · exact lift (ap_X20_act_k4lo J p0 p1 p2 p3 p4 p5 (by omega) (by omega) (by omega)) (by decide +kernel) (by omega)
  by_cases d406 : p0 = 406
  · subst d406
    obtain ⟨J2, F1⟩ := J.fault 0
    have hl := J.ln18
    refine MCal.mono ?_ (h_X20_act406 (c := p1) (w := p2) (m := p3) (p4 := p4) (p5 := p5) hl J.1)
    rintro ⟨o1, o2, v⟩ h' ⟨e1, e2, a⟩
    obtain ⟨J', F2⟩ := J2.l18 a
    have F : Frm m20A h h' := (F1.mono (by decide +kernel)).trans (F2.mono (by decide +kernel))
    have gzr : ∀ r i : Int, (r < 2540 ∨ 2542 < r) → r ≠ 2448 → gz h' r i = gz h r i := fun r i hr n => by
      rw [F2.2.2 r i fun m hm y => by
        rw [List.mem_singleton.mp hm] at y
        have y1 : (2540 : Int) ≤ r ∧ ((2542 : Nat) = 0 ∨ r ≤ (2542 : Int)) := y.1
        omega]
      exact F1.2.2 r i fun m hm y => by
        rw [List.mem_singleton.mp hm] at y
        have y1 : (2448 : Int) ≤ r ∧ ((2448 : Nat) = 0 ∨ r ≤ (2448 : Int)) := y.1
        omega
    refine ⟨e1, e2, ⟨J', F, by rw [gzr 2570 6 (by decide) (by decide)]; omega⟩, fun _ => ?_, fun z => absurd rfl z⟩
    have s1 : ∀ (d : Nat) (i : Int), d ≠ 2448 → ga (sa h 2448 0 0) d i = ga h d i := fun d i n => ga_ne _ _ _ _ n i
    have L : ∀ (x : MH) (j : Int), 0 ≤ j → j < 8 → lnR x j = ga x 2540 j := fun x j j0 j8 => ga_gz (c := 2540) j0 (by omega)
    have R : ∀ (x : MH) (j k : Int), 0 ≤ j → j < 8 → 0 ≤ k → k < 8 → rgR x j k = ga x 2541 (4 * j + k) := fun x j k j0 j8 k0 k8 => ga_gz (c := 2541) (by omega) (by omega)
    have Y : ∀ (x : MH) (j k : Int), 0 ≤ j → j < 8 → 0 ≤ k → k < 8 → cyR x j k = ga x 2542 (4 * j + k) := fun x j k j0 j8 k0 k8 => ga_gz (c := 2542) (by omega) (by omega)
    have okk : ok406 (lnR h) (rgR h) (cyR h) p1 p2 p3 ↔ ok18 (sa h 2448 0 0) p1 p2 p3 := by
      unfold ok18
      rw [s1 2540 p1 (by decide), s1 2541 _ (by decide), s1 2542 _ (by decide)]
      refine ⟨fun ⟨x1, x2, x3, x4, x5, x6, x7, x8⟩ => ?_, fun ⟨x1, x2, x3, x4, x5, x6, x7, x8⟩ => ?_⟩
      · rw [L h p1 x1 (by omega)] at x7 x8
        have k0 := hl p1 x1 (by omega)
        refine ⟨x1, x2, x3, x4, x5, x6, x7, fun z => ?_⟩
        have w := x8 z
        rw [R h p1 _ x1 (by omega) (by omega) (by omega), Y h p1 _ x1 (by omega) (by omega) (by omega), ← Int.add_sub_assoc] at w
        exact w
      · have k0 := hl p1 x1 (by omega)
        refine ⟨x1, x2, x3, x4, x5, x6, by rw [L h p1 x1 (by omega)]; exact x7, fun z => ?_⟩
        rw [L h p1 x1 (by omega)] at z ⊢
        rw [R h p1 _ x1 (by omega) (by omega) (by omega), Y h p1 _ x1 (by omega) (by omega) (by omega), ← Int.add_sub_assoc]
        exact x8 z
    obtain ⟨_, _, r⟩ := a
    rcases r with ⟨o, a1, a2, a3, a4, a5⟩ | ⟨no, e⟩
    · have c0 := o.1
      have c7 := o.2.1
      have k4 := o.2.2.2.2.2.2.1
      have k0 := hl p1 c0 (by omega)
      rw [s1 2540 p1 (by decide)] at a1 a2 a3 k4
      have a4' : ∀ j : Int, 0 ≤ j → j ≠ p1 → ga h' 2540 j = ga h 2540 j := fun j j0 n => (a4 j j0 n).trans (s1 2540 j (by decide))
      have a5' : ∀ i : Int, 0 ≤ i → i ≠ 4 * p1 + ga h 2540 p1 → ga h' 2541 i = ga h 2541 i ∧ ga h' 2542 i = ga h 2542 i := fun i i0 n => by
        have w := a5 i i0 (by rw [s1 2540 p1 (by decide)]; exact n)
        exact ⟨w.1.trans (s1 2541 i (by decide)), w.2.trans (s1 2542 i (by decide))⟩
      refine Or.inl ⟨okk.mpr o, ?_, ?_, ?_, fun j j0 j8 n => ?_, fun j k j0 j8 k0' kl => ?_⟩
      · rw [L h' p1 c0 (by omega), L h p1 c0 (by omega)]
        exact a1
      · rw [L h p1 c0 (by omega), R h' p1 _ c0 (by omega) (by omega) (by omega)]
        exact a2
      · rw [L h p1 c0 (by omega), Y h' p1 _ c0 (by omega) (by omega) (by omega)]
        exact a3
      · rw [L h' j j0 j8, L h j j0 j8]
        exact a4' j j0 n
      · rw [L h j j0 j8] at kl
        have kj := hl j j0 j8
        rw [R h' j k j0 j8 k0' (by omega), R h j k j0 j8 k0' (by omega), Y h' j k j0 j8 k0' (by omega), Y h j k j0 j8 k0' (by omega)]
        refine a5' _ (by omega) ?_
        by_cases z : j = p1
        · subst z
          omega
        · omega
    · refine Or.inr ⟨fun z => no (okk.mp z), fun j j0 j8 => ?_, fun j k j0 j8 k0 kl => ?_⟩
      · rw [e, L _ j j0 j8, L h j j0 j8]
        exact s1 2540 j (by decide)
      · rw [L h j j0 j8] at kl
        have kj := hl j j0 j8
        rw [e, R _ j k j0 j8 k0 (by omega), R h j k j0 j8 k0 (by omega), Y _ j k j0 j8 k0 (by omega), Y h j k j0 j8 k0 (by omega)]
        exact ⟨s1 2541 _ (by decide), s1 2542 _ (by decide)⟩
  by_cases d407 : p0 ≤ 499
  · exact lift (ap_X20_act_k4hi J p0 p1 p2 p3 p4 p5 (by omega) (by omega) (by omega)) (by decide +kernel) (by omega)
  by_cases d500 : p0 ≤ 599
  · exact lift (ap_X20_act_k5 J p0 p1 p2 p3 p4 p5 (by omega) (by omega) (by omega)) (by decide +kernel) (by omega)
  by_cases d600 : p0 ≤ 699
  · exact lift (ap_X20_act_k6 J p0 p1 p2 p3 p4 p5 (by omega) (by omega) (by omega)) (by decide +kernel) (by omega)
  by_cases d700 : p0 ≤ 799
  · exact lift (ap_X20_act_k7 J p0 p1 p2 p3 p4 p5 (by omega) (by omega) (by omega)) (by decide +kernel) (by omega)
  exact lift (ap_X20_act_kd J p0 p1 p2 p3 p4 p5 (by omega) (by omega)) (by decide +kernel) (by omega)
