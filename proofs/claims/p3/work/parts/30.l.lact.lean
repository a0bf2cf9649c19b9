/-! the law's act comes back, both ways -/
theorem zJ_w : (zJ.all fun k => zkpC zG [(2627, 2627, 0, 0)] 2628 (k, ([], [], [], []))) = true := by decide +kernel
theorem JJ.out {h : MH} (J : JJ zJ h) (v : Int) : JJ zJ (sa h 2627 0 v) ∧ Frm [(2627, 2627, 0, 0)] h (sa h 2627 0 v) := by
  have F : Frm [(2627, 2627, 0, 0)] h (sa h 2627 0 v) := Frm.write (r := 2627) (i := 0) (by decide) (by decide) (by decide) List.mem_cons_self ⟨⟨by decide, Or.inr (by decide)⟩, Or.inr ⟨by decide, by decide⟩⟩
  have s : StrZ zT (sa h 2627 0 v) := StrZ.write (r := 2627) (i := 0) J.1 (by decide) (by decide +kernel) (by decide +kernel)
  exact ⟨⟨s, fun k hk => zGl_kp F J.1.1.1 (List.all_eq_true.mp zJ_pos k hk) (List.all_eq_true.mp zJ_w k hk) (J.2 k hk)⟩, F⟩
def pgL_act : MP := ([(0, 5, (Int.ofNat 0), 7, 0, 0), (2, 1, (Int.ofNat 0), 0, 0, 0), (3, 5, (Int.ofNat 0), 0, 1, 0), (4, 3, (Int.ofNat 0), 1, 1, 0), (5, 3, (Int.ofNat 0), 2, 1, 0), (6, 3, (Int.ofNat 0), 3, 1, 0), (7, 3, (Int.ofNat 0), 4, 0, 0), (9, 3, (Int.ofNat 0), 5, 0, 0), (11, 3, (Int.ofNat 0), 6, 0, 0), (13, 67, (Int.ofNat 7), 384, 0, 0), (16, 57, (Int.ofNat 0), 0, 0, 0), (17, 45, (Int.ofNat 0), 24, 0, 0), (20, 9, (Int.ofNat 0), 8, 0, 0), (22, 1, (Int.ofNat 1), 0, 0, 0), (23, 61, (Int.ofNat 0), 0, 0, 0), (24, 9, (Int.ofNat 0), 8, 0, 0), (26, 1, (Int.ofNat 2), 0, 0, 0), (27, 61, (Int.ofNat 0), 0, 0, 0), (28, 9, (Int.ofNat 0), 8, 0, 0), (30, 1, (Int.ofNat 3), 0, 0, 0), (31, 61, (Int.ofNat 0), 0, 0, 0), (32, 9, (Int.ofNat 0), 8, 0, 0), (34, 1, (Int.ofNat 4), 0, 0, 0), (35, 61, (Int.ofNat 0), 0, 0, 0), (36, 1, (Int.ofNat 0), 0, 0, 0), (37, 61, (Int.ofNat 0), 0, 0, 0)], [])
theorem pkL_act : okP KL_act 21 pgL_act = true := by decide +kernel
/-- what is known behind the law's act -/
def PL30 (p0 p1 p2 p3 : Int) (h h' : MH) : Prop := P11 p0 p1 p2 p3 h h'
theorem P11.out {p0 p1 p2 p3 : Int} {h h1 : MH} (P : P11 p0 p1 p2 p3 h h1) (v : Int) : P11 p0 p1 p2 p3 h (sa h1 2627 0 v) ∧ Phi (sa h1 2627 0 v) = Phi h1 := by
  obtain ⟨J, l, c0, j1, j2, a, b, w⟩ := P
  obtain ⟨J2, F⟩ := J.out v
  have n : 2628 ≤ h1.1 := J.1.1.1
  have e1 : gz (sa h1 2627 0 v) 1319 2 = gz h1 1319 2 := F.at (z := (1319, 1319, 2, 2)) (List.forall_mem_cons.mpr ⟨by decide, fun _ z => absurd z List.not_mem_nil⟩) ⟨⟨by decide, Or.inr (by decide)⟩, Or.inr ⟨by decide, by decide⟩⟩
  have e2 : gz (sa h1 2627 0 v) 2570 6 = gz h1 2570 6 := F.at (z := (2570, 2570, 6, 6)) (List.forall_mem_cons.mpr ⟨by decide, fun _ z => absurd z List.not_mem_nil⟩) ⟨⟨by decide, Or.inr (by decide)⟩, Or.inr ⟨by decide, by decide⟩⟩
  have e3 : ∀ r i : Int, 1 ≤ r → r < 2627 → gz (sa h1 2627 0 v) r i = gz h1 r i := fun r i r0 r1 => F.2.2 r i fun m hm q => by
    rw [List.mem_singleton.mp hm] at q
    have := q.1.1
    have : (2627 : Int) ≤ r := this
    omega
  have l8 : ∀ j : Int, ln8 (sa h1 2627 0 v) j = ln8 h1 j := fun j => e3 791 j (by decide) (by decide)
  have r8 : ∀ j k : Int, 0 ≤ j → j < 8 → rg8 (sa h1 2627 0 v) j k = rg8 h1 j k := fun j k a b => e3 _ k (by omega) (by omega)
  have y8 : ∀ j k : Int, 0 ≤ j → j < 8 → cy8 (sa h1 2627 0 v) j k = cy8 h1 j k := fun j k a b => e3 _ k (by omega) (by omega)
  refine ⟨⟨J2, by have := F.1; omega, ⟨((F.2.1 0 (by omega)).1).trans c0.1, ((F.2.1 0 (by omega)).2).trans c0.2⟩, by rw [e1]; exact j1, by rw [e2]; exact j2, ⟨fun e => ?_, fun e => ?_⟩, fun j j0 j8 => ?_, fun j j0 j1 => ?_⟩, Phi.frm (M := [(2627, 2627, 0, 0)]) J (by decide) F⟩
  · rcases a.1 e with ⟨o1, o2, o3, o4, o5, o6⟩ | ⟨o1, o5, o6⟩
    · have c0 := o1.1
      have c7 := o1.2.1
      exact Or.inl ⟨o1, by rw [l8]; exact o2, by rw [r8 _ _ c0 (by omega)]; exact o3, by rw [y8 _ _ c0 (by omega)]; exact o4, fun j j0 j8 jn => by rw [l8]; exact o5 j j0 j8 jn, fun j k j0 j8 k0 k1 => by rw [r8 _ _ j0 j8, y8 _ _ j0 j8]; exact o6 j k j0 j8 k0 k1⟩
    · exact Or.inr ⟨o1, fun j j0 j8 => by rw [l8]; exact o5 j j0 j8, fun j k j0 j8 k0 k1 => by rw [r8 _ _ j0 j8, y8 _ _ j0 j8]; exact o6 j k j0 j8 k0 k1⟩
  · obtain ⟨o5, o6⟩ := a.2 e
    exact ⟨fun j j0 j8 => by rw [l8]; exact o5 j j0 j8, fun j k j0 j8 k0 k1 => by rw [r8 _ _ j0 j8, y8 _ _ j0 j8]; exact o6 j k j0 j8 k0 k1⟩
  · obtain ⟨b1, b2⟩ := b j j0 j8
    exact ⟨(e3 2540 j (by decide) (by decide)).trans b1, fun k => ⟨(e3 2541 _ (by decide) (by decide)).trans (b2 k).1, (e3 2542 _ (by decide) (by decide)).trans (b2 k).2⟩⟩
  · rw [← w j j0 j1]
    rfl
/-- thrown: nothing has changed -/
theorem P11.thrown {p0 p1 p2 p3 : Int} {h h1 : MH} {e : Nat} {o : MO} (h0 : p0 ≠ 406) (J0 : JJ zJ h) (q : XQ e h o h1) : P11 p0 p1 p2 p3 h h1 ∧ Phi h1 = Phi h := by
  have n : 2628 ≤ h.1 := J0.1.1.1
  obtain ⟨-, J, F⟩ := q
  have e3 : ∀ r i : Int, 1 ≤ r → r < 2627 → gz h1 r i = gz h r i := fun r i r0 r1 => F.2.2 r i fun m hm q => by
    rw [List.mem_singleton.mp hm] at q
    have := q.1.1
    have : (2628 : Int) ≤ r := this
    omega
  refine ⟨⟨J, F.1, F.2.1 0 (by omega), by rw [e3 1319 2 (by decide) (by decide)]; omega, e3 2570 6 (by decide) (by decide), ⟨fun e => absurd e h0, fun _ => ⟨fun j _ _ => e3 791 j (by decide) (by decide), fun j k j0 j8 _ _ => ⟨e3 _ k (by omega) (by omega), e3 _ k (by omega) (by omega)⟩⟩⟩, fun j j0 j8 => ⟨e3 2540 j (by decide) (by decide), fun k => ⟨e3 2541 _ (by decide) (by decide), e3 2542 _ (by decide) (by decide)⟩⟩, fun j j0 j1 => ?_⟩, Phi.frm (M := [(2628, 0, 1, 0)]) J0 (by decide) F⟩
  rw [← ga_gz (c := 0) j0 (by omega), ← ga_gz (c := 0) j0 (by omega)]
  exact F.2.2 _ j fun m hm q => by
    rw [List.mem_singleton.mp hm] at q
    have := q.1.1
    have : (2628 : Int) ≤ ((0 : Nat) : Int) := this
    omega
theorem met_mono {l : Launch} {y : MethodName} {ws : List Cond} {rm : Room} {Pc : Array Value → State → Prop} {Qc Qc' : Array Value → State → Outcome → State → Prop} {mc ms : Nat} {free : Addr → Prop} (hQ : ∀ a s o t, Qc a s o t → Qc' a s o t) (k : Met l y ws rm Pc Qc mc ms free) : Met l y ws rm Pc Qc' mc ms free :=
  MetFree.mono k (fun _ _ z => z) (fun _ _ _ _ _ z => z) (fun _ _ _ _ _ ⟨e2, e3⟩ => ⟨hQ _ _ _ _ e2, e3⟩)
set_option maxRecDepth 20000 in
theorem lact_ok {N n : Nat} {h : MH} (I : LI N n h) (hn : n ≤ 63) (p0 p1 p2 p3 p4 p5 : Int) : ∃ mc ms : Nat, mc ≤ 8 ∧ ms ≤ 96000 + Phi h ∧ ∀ (D : va_G) (x : Nat → Nat) (s0 : Nat) (l : Launch), l.stackTraces = false → mokS [(2, ((4 : Nat) : Int)), (0, p0), (0, p1), (0, p2), (0, p3), (0, p4), (0, p5), (2, ((2627 : Nat) : Int))] →
    Met l yL_act (wL :: mTB) (rmL mc ms) (PcL D x s0 [(2, ((4 : Nat) : Int)), (0, p0), (0, p1), (0, p2), (0, p3), (0, p4), (0, p5), (2, ((2627 : Nat) : Int))] h) (mQc D x s0 (mRI fun _ h' => P11 p0 p1 p2 p3 h h' ∧ ms + Phi h' ≤ 96000 + Phi h)) mc ms (fun q => s0 ≤ q) := by
  have nn : 2628 ≤ h.1 := I.1.1.1.1
  rcases act11 I hn p0 p1 p2 p3 p4 p5 with ⟨mc, ms, h1, h2, hM⟩ | ⟨e, e1, e4, h0, hM⟩
  · refine ⟨mc, ms, h1, h2, fun D x s0 l hst oA => lact_N ?_ (Nat.le_of_ble_eq_true rfl) oA⟩
    show MW KL_act _ mc ms (pcA pgL_act 0) [(0, (2, ((4 : Nat) : Int))), (1, (0, p0)), (2, (0, p1)), (3, (0, p2)), (4, (0, p3)), (5, (0, p4)), (6, (0, p5)), (7, (2, ((2627 : Nat) : Int)))] [] h
    refine hd_aload pkL_act rfl rfl (Int.natCast_nonneg _) ?_
    refine hd_ipush (z := 0) pkL_act rfl ?_
    refine hd_aload pkL_act rfl rfl (Int.natCast_nonneg _) ?_
    refine hd_iload pkL_act rfl rfl ?_
    refine hd_iload pkL_act rfl rfl ?_
    refine hd_iload pkL_act rfl rfl ?_
    refine hd_iload pkL_act rfl rfl ?_
    refine hd_iload pkL_act rfl rfl ?_
    refine hd_iload pkL_act rfl rfl ?_
    refine hd_callR pkL_act rfl (q := (KX11_act, yX11_act, 11, 6, 0)) rfl rfl (by decide +kernel) (As := [(0, p0), (0, p1), (0, p2), (0, p3), (0, p4), (0, p5)]) (rest := [(0, 0), (2, ((2627 : Nat) : Int))]) (c := 4) rfl rfl (Nat.le_of_ble_eq_true rfl) I.c4.1 I.c4.2 (Nat.le_refl _) (Nat.le_refl _) hM (hd_bL (fun w h1 p => ?_))
    have n1 : 2628 ≤ h1.1 := p.1.1.1.1.1
    refine hd_last (c := 2627) (n := 1) pkL_act rfl ⟨by omega, (p.1.1.1.1.2 2627 (by decide) (by decide)).1, fun _ => (p.1.1.1.1.2 2627 (by decide) (by decide)).2 (by rw [(p.1.1.1.1.2 2627 (by decide) (by decide)).1]; decide)⟩ (by decide) (by decide) (by decide) (fun h2 eh => ?_)
    subst eh
    refine hd_goto pkL_act rfl ?_
    refine hd_ipush (z := 0) pkL_act rfl ?_
    refine hd_iret pkL_act rfl ?_
    obtain ⟨q1, q2⟩ := p.1.out w
    exact ⟨rfl, rfl, q1, by rw [q2]; exact p.2⟩
  · refine ⟨1, 6, by decide, by omega, fun D x s0 l hst oA => ?_⟩
    refine met_mono ?_ (lact_T (D := D) (x := x) (s0 := s0) hst e1 e4 oA hM (by omega) (I.1.1.1.2 4 (by decide) (by decide)).1 (Nat.le_refl _) (Nat.le_refl _))
    rintro av st oc t ⟨r, h', ⟨rfl, q⟩, z⟩
    obtain ⟨q1, q2⟩ := P11.thrown h0 I.1 q
    exact ⟨(1, (0, (e : Int))), h', ⟨rfl, rfl, q1, by omega⟩, z⟩
