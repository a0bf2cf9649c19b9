/-! the law's beginning -/
theorem init_call {a : Nat} (a21 : a < 21) {H H1 : CH} {o1 : MO} {c0 : Int} (e1 : crun 4000 (821 + a) 0 (margs 0 [(2, c0)]) [] H = some (o1, H1)) (h4 : 4 ≤ H.1) (hw : mwid [(2, c0)] ≤ (kI a).2.2.2.1) (h0 : pcA (pgI a) 0 = 0) (hb : MH) : (H.1 ≤ H1.1 ∧ H.2.1 ≤ H1.2.1) ∧ MCal (kI a) (yI a) (H1.1 - H.1) (H1.2.1 - H.2.1) [(2, c0)] (cMH hb H) (fun o' h' => o' = o1 ∧ ∃ hb', ag4 hb hb' ∧ h' = cMH hb' H1) := by
  obtain ⟨⟨c1, c2⟩, c3⟩ := crun_of 4000 (821 + a) 0 _ _ H o1 H1 e1 h4 (by omega)
  have z1 : Nat.blt (821 + a) 821 = false := by
    cases zz : Nat.blt (821 + a) 821 with
    | false => rfl
    | true => have := bltN zz; omega
  have uk : uK (821 + a) = kI a := by
    unfold uK
    rw [z1, Nat.add_sub_cancel_left]
    rfl
  have up : uP (821 + a) = pgI a := by
    unfold uP
    rw [z1, Nat.add_sub_cancel_left]
    rfl
  obtain ⟨f1, f2, f3, f4, f5, f6, f7, f8, f9⟩ := IFk_ok a a21
  refine ⟨⟨c1, c2⟩, MCal.ofMW (Or.inr (Or.inr ⟨f8, f6⟩)) ⟨f2, f3⟩ hw ?_ (fun e => by rw [f8] at e; cases e)⟩
  have k := c3 hb (fun o' h' => o' = o1 ∧ ∃ hb', ag4 hb hb' ∧ h' = cMH hb' H1) _ _ (Nat.le_refl _) (Nat.le_refl _) fun hb' a' => ⟨rfl, hb', a', rfl⟩
  rw [uk, up, h0] at k
  exact k
theorem cMH_0 {hb : MH} (h4 : hb.1 = 4) : cMH hb (4, 0, []) = hb := by
  refine Prod.ext h4.symm (funext fun a => ?_)
  show (match cAt (4, 0, []) a with
    | some c => cMC c
    | none => hb.2 a) = hb.2 a
  have e : cAt (4, 0, []) a = none := by
    unfold cAt
    cases Nat.blt a 4 <;> rfl
  rw [e]
theorem cMC_obj (ci N : Nat) : cMC (16 + ci, N, 2, []) = (16 + ci, N, fun j => mdef (mft ci j)) := by
  unfold cMC
  refine Prod.ext rfl (Prod.ext rfl (funext fun j => ?_))
  show mdef (mft (16 + ci - 16) j) = mdef (mft ci j)
  rw [Nat.add_sub_cancel_left]
theorem nfl11 : ∀ k, k < 10 → tyX11 k ≠ .float := by decide
theorem nfl20 : ∀ k, k < 19 → tyX20 k ≠ .float := by decide
set_option maxRecDepth 20000 in
set_option maxHeartbeats 4000000 in
theorem law_pre {Qr : MO → MH → Prop} {hb : MH} (h4 : hb.1 = 4) (k : ∀ (hb' : MH) (mc ms : Nat), ag4 hb hb' → 512 ≤ mc → 6718675 ≤ ms → MW KL_law Qr mc ms (pcA pgL_law 13) (L0 0) [] (cMH hb' hLit)) : MW KL_law Qr room_1.cells room_1.slots (pcA pgL_law 0) [(0, (2, ((0 : Nat) : Int)))] [] hb := by
  have rs : 7283178 ≤ room_1.slots := by decide +kernel
  obtain ⟨⟨m1, n1, l1⟩, ⟨m3, n3, l3⟩, o1, o3, z1, z3, e2448, r1, r3, hE⟩ := cS2_eq
  have e2448 : m1 = 2448 := e2448
  subst e2448
  have hE1 : m3 + 1 = 2628 := congrArg Prod.fst hE
  have hE2 : n3 + 1 = 564503 := congrArg (fun z => z.2.1) hE
  have hm3 : m3 = 2627 := by omega
  subst hm3
  have hn3 : n3 = 564502 := by omega
  subst hn3
  have b11 : ((hnew hb (16 + 11, 10, fun j => mdef (mft 11 j)))) = cMH hb (5, 10, [(27, 10, 2, [])]) := by
    have q := cMH_new (hb := hb) (H := (4, 0, [])) (Nat.le_refl 4) (16 + 11, 10, 2, []) 10
    rw [cMC_obj, cMH_0 h4] at q
    exact q.symm
  refine m_new (K := KL_law) (pcA pgL_law 1) (idx := 8) (ci := 11) (C := RX11) (T := TX11) (N := 10) (ty0 := tyX11) (by decide +kernel) (by decide +kernel) rfl lu_X11 tyX11_ok nfl11 ⟨lkL_8, ln_X11, li_X11⟩ (by decide) (by decide) ?_
  rw [b11, h4]
  refine hd_dup pkL_law rfl rfl ?_
  obtain ⟨f1, f2, f3, f4, f5, f6, f7, f8, f9⟩ := IFk_ok 11 (by decide)
  have fB : fitB KL_law (kI 11) = true := by decide +kernel
  obtain ⟨⟨s1, s2⟩, c1⟩ := init_call (a := 11) (by decide) r1 (by decide) (by decide) (by decide +kernel) hb
  have s1 : (5 : Nat) ≤ 2448 := s1
  have s2 : 10 ≤ n1 := s2
  have s5 : n1 + 19 ≤ 564502 := (init_call (a := 20) (by decide) r3 (by show 4 ≤ 2448 + 1; decide) (by decide) (by decide +kernel) hb).1.2
  refine m_invokespecial (K := KL_law) (K' := kI 11) (y := yI 11) (As := []) (S := [(2, ((4 : Nat) : Int))]) (r := ((4 : Nat) : Int)) (ci := 11) (C := RX11) (T := TX11) (N := 10) (idx := 21) (by decide +kernel) (fun e => absurd rfl e) f1 rfl (by decide) (show (4 : Nat) < 5 by decide) rfl ⟨lmL_21, f5⟩ f6 ⟨trivial, f4.1, f4.2.1, f4.2.2⟩ f7 (fitB_of fB).1 (by decide) rfl (show 2448 - 5 ≤ room_1.cells - 1 by decide) (show n1 - 10 ≤ room_1.slots - 10 by omega) c1 (fun o' h' p => ?_)
  obtain ⟨rfl, hb1, ag1, rfl⟩ := p
  refine ⟨fun _ => ?_, fun z => absurd (z1.symm.trans z) (by decide)⟩
  refine hd_pc (by decide +kernel : pcA pgL_law 2 + 3 = pcA pgL_law 3) ?_
  refine hd_astore pkL_law rfl (by decide) rfl ?_
  have b20 : (hnew (cMH hb1 (2448, n1, l1)) (16 + 20, 19, fun j => mdef (mft 20 j))) = cMH hb1 (2449, n1 + 19, (36, 19, 2, []) :: l1) := by
    have q := cMH_new (hb := hb1) (H := (2448, n1, l1)) (by show 4 ≤ 2448; decide) (16 + 20, 19, 2, []) (n1 + 19)
    rw [cMC_obj] at q
    exact q.symm
  refine m_new (K := KL_law) (pcA pgL_law 5) (idx := 22) (ci := 20) (C := RX20) (T := TX20) (N := 19) (ty0 := tyX20) (by decide +kernel) (by decide +kernel) rfl lu_X20 tyX20_ok nfl20 ⟨lkL_22, ln_X20, li_X20⟩ (show 1 ≤ room_1.cells - 1 - (2448 - 5) by decide) (show 19 ≤ room_1.slots - 10 - (n1 - 10) by omega) ?_
  rw [b20]
  refine hd_dup pkL_law rfl rfl ?_
  obtain ⟨g1, g2, g3, g4, g5, g6, g7, g8, g9⟩ := IFk_ok 20 (by decide)
  have gB : fitB KL_law (kI 20) = true := by decide +kernel
  obtain ⟨-, c3⟩ := init_call (a := 20) (by decide) r3 (by show 4 ≤ 2448 + 1; decide) (by decide) (by decide +kernel) hb1
  refine m_invokespecial (K := KL_law) (K' := kI 20) (y := yI 20) (As := []) (S := [(2, ((2448 : Nat) : Int))]) (r := ((2448 : Nat) : Int)) (ci := 20) (C := RX20) (T := TX20) (N := 19) (idx := 24) (by decide +kernel) (fun e => absurd rfl e) g1 rfl (by decide) (show (2448 : Nat) < 2449 by decide) rfl ⟨lmL_24, g5⟩ g6 ⟨trivial, g4.1, g4.2.1, g4.2.2⟩ g7 (fitB_of gB).1 (by decide) rfl (show 2627 - 2449 ≤ room_1.cells - 1 - (2448 - 5) - 1 by decide) (show 564502 - (n1 + 19) ≤ room_1.slots - 10 - (n1 - 10) - 19 by omega) c3 (fun o' h' p => ?_)
  obtain ⟨rfl, hb2, ag2, rfl⟩ := p
  refine ⟨fun _ => ?_, fun z => absurd (z3.symm.trans z) (by decide)⟩
  refine hd_pc (by decide +kernel : pcA pgL_law 6 + 3 = pcA pgL_law 7) ?_
  refine hd_astore pkL_law rfl (by decide) rfl ?_
  refine hd_ipush (z := 1) pkL_law rfl ?_
  refine m_newarray (K := KL_law) (pcA pgL_law 10) (at' := .long) (kind := 1) (by decide +kernel) (by decide +kernel) (Or.inr (Or.inl ⟨rfl, rfl⟩)) la_long (by decide) (by decide) (show 1 ≤ room_1.cells - 1 - (2448 - 5) - 1 - (2627 - 2449) by decide) (show (1 : Int) ≤ ((room_1.slots - 10 - (n1 - 10) - 19 - (564502 - (n1 + 19)) : Nat) : Int) by omega) ?_
  have bL : (hnew (cMH hb2 (2627, 564502, l3)) (1, (1 : Int).toNat, fun _ => 0)) = cMH hb2 hLit := by
    have q := cMH_new (hb := hb2) (H := (2627, 564502, l3)) (by show 4 ≤ 2627; decide) (1, 1, 0, []) 564503
    rw [← hE]
    exact q.symm
  rw [bL]
  refine hd_astore pkL_law rfl (Int.natCast_nonneg _) rfl ?_
  refine hd_ipush (z := 0) pkL_law rfl ?_
  refine hd_istore pkL_law rfl rfl ?_
  refine m_sub (L0 0) (List.forall_mem_cons.mpr ⟨rfl, List.forall_mem_cons.mpr ⟨rfl, List.forall_mem_cons.mpr ⟨rfl, List.forall_mem_cons.mpr ⟨rfl, List.forall_mem_cons.mpr ⟨rfl, fun _ z => absurd z List.not_mem_nil⟩⟩⟩⟩⟩) ?_
  exact k hb2 _ _ (ag1.trans ag2) (by decide) (show 6718675 ≤ room_1.slots - 10 - (n1 - 10) - 19 - (564502 - (n1 + 19)) - (1 : Int).toNat by
    rw [show (1 : Int).toNat = 1 from rfl]
    omega)
