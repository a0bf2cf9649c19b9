/-! the law: act, logJoin, the loop -/
def LH (N : Nat) (h : MH) : Prop := JJ zJ h ∧ (h.2 0).1 = 0 ∧ (h.2 0).2.1 = N
theorem LH.c0 {N : Nat} {h : MH} (I : LH N h) : 0 < h.1 ∧ (h.2 0).1 = 0 ∧ (0 < 16 → (h.2 0).2.1 = N) := by
  have q : 2628 ≤ h.1 := I.1.1.1.1
  exact ⟨by omega, I.2.1, fun _ => I.2.2⟩
theorem LH.cR {N : Nat} {h : MH} (I : LH N h) : 2448 < h.1 ∧ (h.2 2448).1 = 36 := by
  have q : 2628 ≤ h.1 := I.1.1.1.1
  exact ⟨by omega, (I.1.1.1.2 2448 (by decide) (by decide)).1⟩
def dC0 (M : List ZR) : Bool := M.all fun m => Nat.blt 0 m.1
theorem ga_frm {M : List ZR} {h h' : MH} (b : dC0 M = true) (F : Frm M h h') {j : Int} (j0 : 0 ≤ j ∧ j < 448) : ga h' 0 j = ga h 0 j := by
  rw [← ga_gz (c := 0) j0.1 (by omega), ← ga_gz (c := 0) j0.1 (by omega)]
  exact F.2.2 _ j fun m hm q => by
    have := bltN (List.all_eq_true.mp b m hm)
    have q1 : (m.1 : Int) ≤ ((0 : Nat) : Int) := q.1.1
    omega
def d8 (M : List ZR) : Bool := M.all fun m => zdis m (791, 791, 1, 0) && (zdis m (774, 781, 1, 0) && zdis m (783, 790, 1, 0))
/-- both sides have done a call of act -/
theorem LI.act {N n : Nat} {h h1 h2 : MH} {p0 c w m : Int} (I : LI N n h) (p : P11 p0 c w m h h1) (q : (JJ zJ h2 ∧ Frm m20A h1 h2 ∧ gz h2 2570 6 ≤ gz h1 2570 6 + 1) ∧ nxL p0 c w m (lnR h1) (rgR h1) (cyR h1) (lnR h2) (rgR h2) (cyR h2)) : LI N (n + 1) h2 ∧ Phi h2 = Phi h1 := by
  obtain ⟨⟨J2, F, j17⟩, nx⟩ := q
  obtain ⟨J1, l, c0, j1, j2, a, b, wv⟩ := p
  have n1 : 2628 ≤ h1.1 := J1.1.1.1
  have bd : d8 m20A = true := by decide +kernel
  have b1 := fun m hm => andB (List.all_eq_true.mp bd m hm)
  have b2 := fun m hm => andB (b1 m hm).2
  have bj : (m20A.all fun m => zdis m (1319, 1319, 2, 2)) = true := by decide +kernel
  have e1 : gz h2 1319 2 = gz h1 1319 2 := F.at (fun m hm => List.all_eq_true.mp bj m hm) ⟨⟨by decide, Or.inr (by decide)⟩, Or.inr ⟨by decide, by decide⟩⟩
  have i1 := I.2.2.1
  have i2 := I.2.2.2.1
  refine ⟨⟨J2, ⟨(F.2.1 0 (by omega)).1.trans (c0.1.trans I.2.1.1), (F.2.1 0 (by omega)).2.trans (c0.2.trans I.2.1.2)⟩, by omega, by omega, I.2.2.2.2.pair a b nx fun j j0 j8 => ⟨F.at (fun m hm => (b1 m hm).1) ⟨⟨by decide, Or.inr (by decide)⟩, Or.inl (by decide : (0 : Nat) < 1)⟩, fun k => ⟨?_, ?_⟩⟩⟩, Phi.frm J1 (by decide +kernel) F⟩
  · exact F.at (fun m hm => (b2 m hm).1) ⟨⟨by show (774 : Int) ≤ 774 + j; omega, Or.inr (by show (774 : Int) + j ≤ 781; omega)⟩, Or.inl (by decide : (0 : Nat) < 1)⟩
  · exact F.at (fun m hm => (b2 m hm).2) ⟨⟨by show (783 : Int) ≤ 783 + j; omega, Or.inr (by show (783 : Int) + j ≤ 790; omega)⟩, Or.inl (by decide : (0 : Nat) < 1)⟩
theorem m_lactI {Qr : MO → MH → Prop} {mc ms mc' ms' : Nat} {L : List (Nat × MV)} {S As : List MV} {h : MH} {R : Int → MH → Prop} {pc : Nat} (hd : decode cL_law pc = .ok (.invokestatic 25, 3)) (hn : As.length = 8) (hwd : (S.map mcat).sum ≤ 8) (hmc : mc' ≤ mc) (hms : ms' ≤ ms)
    (hM : ∀ (D : va_G) (x : Nat → Nat) (s0 : Nat) (l : Launch), l.stackTraces = false → mokS As → Met l yL_act (wL :: mTB) (rmL mc' ms') (PcL D x s0 As h) (mQc D x s0 (mRI R)) mc' ms' (fun q => s0 ≤ q))
    (kk : ∀ (v : Int) (h' : MH), R v h' → MW KL_law Qr (mc - mc') (ms - ms') (pc + 3) L ((0, v) :: S) h') : MW KL_law Qr mc ms pc L (As.reverse ++ S) h := by
  refine m_lact hd hn hwd hmc hms hM (fun r h' q => ?_)
  obtain ⟨n, t, v⟩ := r
  obtain ⟨e1, e2, e3⟩ := q
  have e1 : n = 1 := e1
  have e2 : t = 0 := e2
  subst e1 e2
  exact ⟨fun z => absurd (show (1 : Nat) = 0 from z) (by decide), fun _ => kk v h' e3⟩
theorem hd_swd {K : mK} {P : MP} {o i pc a : Nat} {zz : Int} {bb cc mc ms : Nat} {L : List (Nat × MV)} {S : List MV} {h : MH} {Q : MO → MH → Prop} (ok : okP K o P = true) {x lo : Int} {dflt : Nat} {ts : List Nat} (hi : P.1[i]? = some (pc, 65, zz, a, bb, cc)) (hp : P.2[a]? = some (lo, dflt :: ts)) (ht : ts[(x - lo).toNat]? = none) (k : MW K Q mc ms (pcA P dflt) L S h) : MW K Q mc ms (pcA P i) L ((0, x) :: S) h := so1 ok hi (by
  show sSw P.2[a]? ((0, x) :: S) _
  rw [hp]
  refine ⟨rfl, ?_⟩
  show sSw2 ts[(x - lo).toNat]? lo dflt x _
  rw [ht]
  exact k)
variable {Qr : MO → MH → Prop}

set_option maxRecDepth 20000 in
set_option maxHeartbeats 8000000 in
theorem lw_case0 {h : MH} {N n mc ms : Nat} {i : Int} (i0 : 0 ≤ i) (i7 : i + 7 ≤ (N : Int)) (hN : N ≤ 448) (I : LI N n h) (hn : n ≤ 63) (hm : RM n h mc ms) (kk : ∀ (h' : MH) (mc' ms' : Nat), LI N (n + 1) h' → RM (n + 1) h' mc' ms' → MW KL_law Qr mc' ms' (pcA pgL_law 345) (L0 i) [] h') : MW KL_law Qr mc ms (pcA pgL_law 25) (L0 i) [] h := by
  unfold RM at hm
  obtain ⟨hm1, hm2⟩ := hm
  refine hd_aload pkL_law rfl rfl (Int.natCast_nonneg _) ?_
  refine hd_aload pkL_law rfl rfl (Int.natCast_nonneg _) ?_
  refine hd_iload pkL_law rfl rfl ?_
  refine hd_ipush (z := 1) pkL_law rfl ?_
  refine hd_iadd pkL_law rfl (by omega) ?_
  refine hd_iald (c := 0) (n := N) pkL_law rfl I.c0 (by omega) (by omega) (fun v1 ev1 rv1 => ?_)
  refine hd_aload pkL_law rfl rfl (Int.natCast_nonneg _) ?_
  refine hd_iload pkL_law rfl rfl ?_
  refine hd_ipush (z := 2) pkL_law rfl ?_
  refine hd_iadd pkL_law rfl (by omega) ?_
  refine hd_iald (c := 0) (n := N) pkL_law rfl I.c0 (by omega) (by omega) (fun v2 ev2 rv2 => ?_)
  refine hd_aload pkL_law rfl rfl (Int.natCast_nonneg _) ?_
  refine hd_iload pkL_law rfl rfl ?_
  refine hd_ipush (z := 3) pkL_law rfl ?_
  refine hd_iadd pkL_law rfl (by omega) ?_
  refine hd_iald (c := 0) (n := N) pkL_law rfl I.c0 (by omega) (by omega) (fun v3 ev3 rv3 => ?_)
  refine hd_aload pkL_law rfl rfl (Int.natCast_nonneg _) ?_
  refine hd_iload pkL_law rfl rfl ?_
  refine hd_ipush (z := 4) pkL_law rfl ?_
  refine hd_iadd pkL_law rfl (by omega) ?_
  refine hd_iald (c := 0) (n := N) pkL_law rfl I.c0 (by omega) (by omega) (fun v4 ev4 rv4 => ?_)
  refine hd_aload pkL_law rfl rfl (Int.natCast_nonneg _) ?_
  refine hd_iload pkL_law rfl rfl ?_
  refine hd_ipush (z := 5) pkL_law rfl ?_
  refine hd_iadd pkL_law rfl (by omega) ?_
  refine hd_iald (c := 0) (n := N) pkL_law rfl I.c0 (by omega) (by omega) (fun v5 ev5 rv5 => ?_)
  refine hd_aload pkL_law rfl rfl (Int.natCast_nonneg _) ?_
  refine hd_iload pkL_law rfl rfl ?_
  refine hd_ipush (z := 6) pkL_law rfl ?_
  refine hd_iadd pkL_law rfl (by omega) ?_
  refine hd_iald (c := 0) (n := N) pkL_law rfl I.c0 (by omega) (by omega) (fun v6 ev6 rv6 => ?_)
  refine hd_aload pkL_law rfl rfl (Int.natCast_nonneg _) ?_
  obtain ⟨mc1, ms1, b1, b2, hM⟩ := lact_ok I hn v1 v2 v3 v4 v5 v6
  refine m_lactI (As := [(2, ((4 : Nat) : Int)), (0, v1), (0, v2), (0, v3), (0, v4), (0, v5), (0, v6), (2, ((2627 : Nat) : Int))]) (S := []) (by decide +kernel) rfl (by decide) (by omega) (by omega) hM (fun w1 h1 p => ?_)
  refine hd_pc (by decide +kernel : pcA pgL_law 57 + 3 = pcA pgL_law 58) ?_
  refine hd_istore pkL_law rfl rfl ?_
  obtain ⟨p, p9⟩ := p
  have I1 : LH N h1 := ⟨p.1, p.2.2.1.1.trans I.2.1.1, p.2.2.1.2.trans I.2.1.2⟩
  refine hd_aload pkL_law rfl rfl (Int.natCast_nonneg _) ?_
  refine hd_aload pkL_law rfl rfl (Int.natCast_nonneg _) ?_
  refine hd_iload pkL_law rfl rfl ?_
  refine hd_ipush (z := 1) pkL_law rfl ?_
  refine hd_iadd pkL_law rfl (by omega) ?_
  refine hd_iald (c := 0) (n := N) pkL_law rfl I1.c0 (by omega) (by omega) (fun v7 ev7 rv7 => ?_)
  refine hd_aload pkL_law rfl rfl (Int.natCast_nonneg _) ?_
  refine hd_iload pkL_law rfl rfl ?_
  refine hd_ipush (z := 2) pkL_law rfl ?_
  refine hd_iadd pkL_law rfl (by omega) ?_
  refine hd_iald (c := 0) (n := N) pkL_law rfl I1.c0 (by omega) (by omega) (fun v8 ev8 rv8 => ?_)
  refine hd_aload pkL_law rfl rfl (Int.natCast_nonneg _) ?_
  refine hd_iload pkL_law rfl rfl ?_
  refine hd_ipush (z := 3) pkL_law rfl ?_
  refine hd_iadd pkL_law rfl (by omega) ?_
  refine hd_iald (c := 0) (n := N) pkL_law rfl I1.c0 (by omega) (by omega) (fun v9 ev9 rv9 => ?_)
  refine hd_aload pkL_law rfl rfl (Int.natCast_nonneg _) ?_
  refine hd_iload pkL_law rfl rfl ?_
  refine hd_ipush (z := 4) pkL_law rfl ?_
  refine hd_iadd pkL_law rfl (by omega) ?_
  refine hd_iald (c := 0) (n := N) pkL_law rfl I1.c0 (by omega) (by omega) (fun v10 ev10 rv10 => ?_)
  refine hd_aload pkL_law rfl rfl (Int.natCast_nonneg _) ?_
  refine hd_iload pkL_law rfl rfl ?_
  refine hd_ipush (z := 5) pkL_law rfl ?_
  refine hd_iadd pkL_law rfl (by omega) ?_
  refine hd_iald (c := 0) (n := N) pkL_law rfl I1.c0 (by omega) (by omega) (fun v11 ev11 rv11 => ?_)
  refine hd_aload pkL_law rfl rfl (Int.natCast_nonneg _) ?_
  refine hd_iload pkL_law rfl rfl ?_
  refine hd_ipush (z := 6) pkL_law rfl ?_
  refine hd_iadd pkL_law rfl (by omega) ?_
  refine hd_iald (c := 0) (n := N) pkL_law rfl I1.c0 (by omega) (by omega) (fun v12 ev12 rv12 => ?_)
  have hj : gz h1 2570 6 ≤ 95 := by
    have := p.2.2.2.2.1
    have := I.2.2.2.1
    omega
  have xv7 : v1 = v7 := by rw [ev7, ev1]; exact (p.2.2.2.2.2.2.2 _ (by omega) (by omega)).symm
  have xv8 : v2 = v8 := by rw [ev8, ev2]; exact (p.2.2.2.2.2.2.2 _ (by omega) (by omega)).symm
  have xv9 : v3 = v9 := by rw [ev9, ev3]; exact (p.2.2.2.2.2.2.2 _ (by omega) (by omega)).symm
  have xv10 : v4 = v10 := by rw [ev10, ev4]; exact (p.2.2.2.2.2.2.2 _ (by omega) (by omega)).symm
  have xv11 : v5 = v11 := by rw [ev11, ev5]; exact (p.2.2.2.2.2.2.2 _ (by omega) (by omega)).symm
  have xv12 : v6 = v12 := by rw [ev12, ev6]; exact (p.2.2.2.2.2.2.2 _ (by omega) (by omega)).symm
  subst xv7
  subst xv8
  subst xv9
  subst xv10
  subst xv11
  subst xv12
  refine hd_callR pkL_law rfl (q := (KX20_act, yX20_act, 20, 6, 0)) rfl rfl (by decide +kernel) (As := [(0, v1), (0, v2), (0, v3), (0, v4), (0, v5), (0, v6)]) (rest := []) (c := 2448) rfl rfl (Nat.le_of_ble_eq_true rfl) I1.cR.1 I1.cR.2 (by omega) (by omega) (act20 (N := N) (n := n) I1.1 hj v1 v2 v3 v4 v5 v6) (hd_bL (fun w15 h13 p14 => ?_))
  obtain ⟨I2, q2⟩ := I.act p p14
  refine hd_lstore pkL_law rfl rfl ?_
  refine hd_goto pkL_law rfl ?_
  refine m_sub (L0 i) (List.forall_mem_cons.mpr ⟨rfl, List.forall_mem_cons.mpr ⟨rfl, List.forall_mem_cons.mpr ⟨rfl, List.forall_mem_cons.mpr ⟨rfl, List.forall_mem_cons.mpr ⟨rfl, fun _ z => absurd z List.not_mem_nil⟩⟩⟩⟩⟩) ?_
  refine kk _ _ _ I2 ⟨?_, ?_⟩
  · omega
  · rw [q2]
    exact (rm_act hn hm2 p9 : (64 - (n + 1)) * 96000 + Phi h1 ≤ ms - ms1)
set_option maxRecDepth 20000 in
set_option maxHeartbeats 8000000 in
theorem lw_case1 {h : MH} {N n mc ms : Nat} {i : Int} (i0 : 0 ≤ i) (i7 : i + 7 ≤ (N : Int)) (hN : N ≤ 448) (I : LI N n h) (hn : n ≤ 63) (hm : RM n h mc ms) (kk : ∀ (h' : MH) (mc' ms' : Nat), LI N (n + 1) h' → RM (n + 1) h' mc' ms' → MW KL_law Qr mc' ms' (pcA pgL_law 345) (L0 i) [] h') : MW KL_law Qr mc ms (pcA pgL_law 93) (L0 i) [] h := by
  unfold RM at hm
  obtain ⟨hm1, hm2⟩ := hm
  refine hd_aload pkL_law rfl rfl (Int.natCast_nonneg _) ?_
  refine hd_aload pkL_law rfl rfl (Int.natCast_nonneg _) ?_
  refine hd_iload pkL_law rfl rfl ?_
  refine hd_ipush (z := 1) pkL_law rfl ?_
  refine hd_iadd pkL_law rfl (by omega) ?_
  refine hd_iald (c := 0) (n := N) pkL_law rfl I.c0 (by omega) (by omega) (fun v1 ev1 rv1 => ?_)
  refine hd_aload pkL_law rfl rfl (Int.natCast_nonneg _) ?_
  refine hd_iload pkL_law rfl rfl ?_
  refine hd_ipush (z := 2) pkL_law rfl ?_
  refine hd_iadd pkL_law rfl (by omega) ?_
  refine hd_iald (c := 0) (n := N) pkL_law rfl I.c0 (by omega) (by omega) (fun v2 ev2 rv2 => ?_)
  refine m_i2d (K := KL_law) (by decide +kernel) ?_
  refine hd_pc (by decide +kernel : pcA pgL_law 104 + 1 = pcA pgL_law 105) ?_
  refine m_ldc2d (K := KL_law) (v := 4593671619917905920) (by decide +kernel) lcL_31 ?_
  refine hd_pc (by decide +kernel : pcA pgL_law 105 + 3 = pcA pgL_law 106) ?_
  refine m_dmul (K := KL_law) rfl (by decide +kernel) (fun r3 ar3 => ?_)
  refine hd_pc (by decide +kernel : pcA pgL_law 106 + 1 = pcA pgL_law 107) ?_
  obtain ⟨R8, hM, hR⟩ := lj_pair I v1 _ r3 ar3
  refine hd_callR pkL_law rfl (q := (KX11_logJoin, yX11_logJoin, 11, 2, 0)) rfl rfl (by decide +kernel) (As := [(0, v1), (3, (r3.toNat : Int))]) (rest := []) (c := 4) rfl rfl (Nat.le_of_ble_eq_true rfl) I.c4.1 I.c4.2 (by omega) (by omega) (hM) (hd_bD (fun w6 h4 p5 => ?_))
  obtain ⟨J1, F1, r8, q8, z8⟩ := p5
  obtain ⟨I1, qI1⟩ := I.frm (by decide +kernel) F1 J1
  refine m_dstore (K := KL_law) (i := 5) (pcA pgL_law 109) (by decide +kernel) (by decide +kernel) (by decide) ?_
  refine hd_aload pkL_law rfl rfl (Int.natCast_nonneg _) ?_
  refine hd_aload pkL_law rfl rfl (Int.natCast_nonneg _) ?_
  refine hd_iload pkL_law rfl rfl ?_
  refine hd_ipush (z := 1) pkL_law rfl ?_
  refine hd_iadd pkL_law rfl (by omega) ?_
  refine hd_iald (c := 0) (n := N) pkL_law rfl I1.c0 (by omega) (by omega) (fun v7 ev7 rv7 => ?_)
  have xv7 : v1 = v7 := by rw [ev7, ev1]; exact (ga_frm (by decide +kernel) F1 (by omega)).symm
  subst xv7
  refine hd_aload pkL_law rfl rfl (Int.natCast_nonneg _) ?_
  refine hd_iload pkL_law rfl rfl ?_
  refine hd_ipush (z := 2) pkL_law rfl ?_
  refine hd_iadd pkL_law rfl (by omega) ?_
  refine hd_iald (c := 0) (n := N) pkL_law rfl I1.c0 (by omega) (by omega) (fun v8 ev8 rv8 => ?_)
  have xv8 : v2 = v8 := by rw [ev8, ev2]; exact (ga_frm (by decide +kernel) F1 (by omega)).symm
  subst xv8
  refine m_i2d (K := KL_law) (by decide +kernel) ?_
  refine hd_pc (by decide +kernel : pcA pgL_law 120 + 1 = pcA pgL_law 121) ?_
  refine m_ldc2d (K := KL_law) (v := 4593671619917905920) (by decide +kernel) lcL_31 ?_
  refine hd_pc (by decide +kernel : pcA pgL_law 121 + 3 = pcA pgL_law 122) ?_
  refine m_dmul (K := KL_law) rfl (by decide +kernel) (fun r9 ar9 => ?_)
  refine hd_pc (by decide +kernel : pcA pgL_law 122 + 1 = pcA pgL_law 123) ?_
  refine hd_callR pkL_law rfl (q := (KX20_logJoin, yX20_logJoin, 20, 2, 0)) rfl rfl (by decide +kernel) (As := [(0, v1), (3, (r9.toNat : Int))]) (rest := []) (c := 2448) rfl rfl (Nat.le_of_ble_eq_true rfl) I1.cR.1 I1.cR.2 (by omega) (by omega) (hR r9 _ ar9 I1 F1) (hd_bD (fun w12 h10 p11 => ?_))
  obtain ⟨J2, F2, rR, qR, zR⟩ := p11
  obtain ⟨I2, qI2⟩ := I1.frm (by decide +kernel) F2 J2
  subst q8
  subst qR
  have zz := zR _ z8
  refine m_dstore (K := KL_law) (i := 7) (pcA pgL_law 125) (by decide +kernel) (by decide +kernel) (by decide) ?_
  refine m_dload (K := KL_law) (i := 5) (by decide +kernel) rfl ?_
  refine hd_pc (by decide +kernel : pcA pgL_law 125 + 2 = pcA pgL_law 126) ?_
  refine m_dload (K := KL_law) (i := 7) (by decide +kernel) rfl ?_
  refine hd_pc (by decide +kernel : pcA pgL_law 126 + 2 = pcA pgL_law 127) ?_
  refine m_dcmp (K := KL_law) (op := .l) (by decide +kernel) ?_
  refine hd_pc (by decide +kernel : pcA pgL_law 127 + 1 = pcA pgL_law 128) ?_
  rw [show dv (r8.toNat : Int) = r8 from mDb r8, show dv (rR.toNat : Int) = rR from mDb rR]
  refine hd_if_eq pkL_law rfl (fun y1 => ?_) (fun y1 => ?_)
  · refine hd_goto pkL_law rfl ?_
    refine m_sub (L0 i) (List.forall_mem_cons.mpr ⟨rfl, List.forall_mem_cons.mpr ⟨rfl, List.forall_mem_cons.mpr ⟨rfl, List.forall_mem_cons.mpr ⟨rfl, List.forall_mem_cons.mpr ⟨rfl, fun _ z => absurd z List.not_mem_nil⟩⟩⟩⟩⟩) ?_
    refine kk _ _ _ (I2.up (by omega)) ⟨?_, ?_⟩
    · omega
    · rw [qI2, qI1]
      exact rm_dn hn hm2 (rm_0 _ _ _ (by decide))
  · rcases zz with zz | ⟨zz, zy⟩
    · exact absurd zz y1
    · skip
      refine m_dload (K := KL_law) (i := 5) (by decide +kernel) rfl ?_
      refine hd_pc (by decide +kernel : pcA pgL_law 129 + 2 = pcA pgL_law 130) ?_
      refine m_dload (K := KL_law) (i := 5) (by decide +kernel) rfl ?_
      refine hd_pc (by decide +kernel : pcA pgL_law 130 + 2 = pcA pgL_law 131) ?_
      refine m_dcmp (K := KL_law) (op := .l) (by decide +kernel) ?_
      refine hd_pc (by decide +kernel : pcA pgL_law 131 + 1 = pcA pgL_law 132) ?_
      rw [show dv (r8.toNat : Int) = r8 from mDb r8]
      refine hd_if_eq pkL_law rfl (fun y2 => absurd y2 zz) (fun y2 => ?_)
      refine m_dload (K := KL_law) (i := 7) (by decide +kernel) rfl ?_
      refine hd_pc (by decide +kernel : pcA pgL_law 133 + 2 = pcA pgL_law 134) ?_
      refine m_dload (K := KL_law) (i := 7) (by decide +kernel) rfl ?_
      refine hd_pc (by decide +kernel : pcA pgL_law 134 + 2 = pcA pgL_law 135) ?_
      refine m_dcmp (K := KL_law) (op := .l) (by decide +kernel) ?_
      refine hd_pc (by decide +kernel : pcA pgL_law 135 + 1 = pcA pgL_law 136) ?_
      rw [show dv (rR.toNat : Int) = rR from mDb rR]
      refine hd_if_ne pkL_law rfl (fun y3 => ?_) (fun y3 => absurd zy y3)
      refine hd_goto pkL_law rfl ?_
      refine m_sub (L0 i) (List.forall_mem_cons.mpr ⟨rfl, List.forall_mem_cons.mpr ⟨rfl, List.forall_mem_cons.mpr ⟨rfl, List.forall_mem_cons.mpr ⟨rfl, List.forall_mem_cons.mpr ⟨rfl, fun _ z => absurd z List.not_mem_nil⟩⟩⟩⟩⟩) ?_
      refine kk _ _ _ (I2.up (by omega)) ⟨?_, ?_⟩
      · omega
      · rw [qI2, qI1]
        exact rm_dn hn hm2 (rm_0 _ _ _ (by decide))
/-- true -/
def Qf : MO → MH → Prop := fun o _ => o = (1, (0, 1))
theorem hd_alenM {K : mK} {P : MP} {o i pc : Nat} {zz : Int} {aa bb cc mc ms : Nat} {L : List (Nat × MV)} {S : List MV} {h : MH} {Q : MO → MH → Prop} (ok : okP K o P = true) {c n : Nat} (hi : P.1[i]? = some (pc, 60, zz, aa, bb, cc)) (hc : c < h.1 ∧ (h.2 c).1 < 16 ∧ (h.2 c).2.1 = n) (hn : n ≤ 2147483647) (k : MW K Q mc ms (pcA P (i + 1)) L ((0, (n : Int)) :: S) h) : MW K Q mc ms (pcA P i) L ((2, (c : Int)) :: S) h := by
  obtain ⟨h1, h2, h3⟩ := hc
  subst h3
  exact so1 ok hi ⟨rfl, Int.natCast_nonneg c, h1, h2, hn, k⟩
set_option maxRecDepth 20000 in
set_option maxHeartbeats 4000000 in
theorem lw_step {N n : Nat} {h : MH} {mc ms : Nat} (hN : N ≤ 448) (I : LI N n h) (hm : RM n h mc ms)
    (ih : n ≤ 63 → ∀ (h' : MH) (mc' ms' : Nat), LI N (n + 1) h' → RM (n + 1) h' mc' ms' → MW KL_law Qf mc' ms' (pcA pgL_law 13) (L0 ((7 * (n + 1) : Nat) : Int)) [] h') : MW KL_law Qf mc ms (pcA pgL_law 13) (L0 ((7 * n : Nat) : Int)) [] h := by
  refine hd_iload pkL_law rfl rfl ?_
  refine hd_aload pkL_law rfl rfl (Int.natCast_nonneg _) ?_
  refine hd_alenM (c := 0) (n := N) pkL_law rfl ⟨I.c0.1, by rw [I.c0.2.1]; decide, I.2.1.2⟩ (by omega) ?_
  refine hd_ipush (z := 7) pkL_law rfl ?_
  refine hd_isub pkL_law rfl (by omega) ?_
  refine hd_ic_gt pkL_law rfl (fun c1 => ?_) (fun c1 => ?_)
  · refine hd_ipush (z := 1) pkL_law rfl ?_
    exact hd_zret pkL_law rfl (by decide) rfl
  · have i0 : (0 : Int) ≤ ((7 * n : Nat) : Int) := Int.natCast_nonneg _
    have i7 : ((7 * n : Nat) : Int) + 7 ≤ (N : Int) := by omega
    have hn : n ≤ 63 := by omega
    have kk : ∀ (h' : MH) (mc' ms' : Nat), LI N (n + 1) h' → RM (n + 1) h' mc' ms' → MW KL_law Qf mc' ms' (pcA pgL_law 345) (L0 ((7 * n : Nat) : Int)) [] h' := by
      intro h' mc' ms' I' m'
      refine hd_iinc (z := 7) pkL_law rfl rfl (by omega) rfl ?_
      refine hd_goto pkL_law rfl ?_
      rw [show ((7 * n : Nat) : Int) + 7 = ((7 * (n + 1) : Nat) : Int) by omega]
      refine m_sub (L0 ((7 * (n + 1) : Nat) : Int)) (List.forall_mem_cons.mpr ⟨rfl, List.forall_mem_cons.mpr ⟨rfl, List.forall_mem_cons.mpr ⟨rfl, List.forall_mem_cons.mpr ⟨rfl, List.forall_mem_cons.mpr ⟨rfl, fun _ z => absurd z List.not_mem_nil⟩⟩⟩⟩⟩) ?_
      exact ih hn h' mc' ms' I' m'
    generalize ((7 * n : Nat) : Int) = i at i0 i7 kk c1
    refine hd_aload pkL_law rfl rfl (Int.natCast_nonneg _) ?_
    refine hd_iload pkL_law rfl rfl ?_
    refine hd_iald (c := 0) (n := N) pkL_law rfl I.c0 (by omega) (by omega) (fun v ev rv => ?_)
    refine hd_ipush (z := 15) pkL_law rfl ?_
    have xb := m_iandB (x := v) (y := 15) (b := 15) (by decide) (by decide) (by decide)
    refine hd_iand pkL_law rfl rfl ?_
    generalize (Int32.ofInt v &&& Int32.ofInt 15).toInt = x at xb
    have dflt : MW KL_law Qf mc ms (pcA pgL_law 345) (L0 i) [] h := by
      refine kk h mc ms (I.up (by omega)) ?_
      unfold RM at hm ⊢
      exact ⟨by omega, by omega⟩
    rcases (show x = 0 ∨ x = 1 ∨ x = 2 ∨ x = 3 ∨ x = 4 ∨ x = 5 ∨ x = 6 ∨ x = 7 ∨ x = 8 ∨ x = 9 ∨ x = 10 ∨ x = 11 ∨ x = 12 ∨ x = 13 ∨ x = 14 ∨ x = 15 by omega) with rfl | rfl | rfl | rfl | rfl | rfl | rfl | rfl | rfl | rfl | rfl | rfl | rfl | rfl | rfl | rfl
    · exact hd_sw (lo := 0) (t := 25) pkL_law rfl rfl rfl (by decide) (lw_case0 i0 i7 hN I hn hm kk)
    · exact hd_sw (lo := 0) (t := 93) pkL_law rfl rfl rfl (by decide) (lw_case1 i0 i7 hN I hn hm kk)
    · exact hd_sw (lo := 0) (t := 140) pkL_law rfl rfl rfl (by decide) (lw_case2 i0 i7 hN I hn hm kk)
    · exact hd_sw (lo := 0) (t := 189) pkL_law rfl rfl rfl (by decide) (lw_case3 i0 i7 hN I hn hm kk)
    · exact hd_sw (lo := 0) (t := 206) pkL_law rfl rfl rfl (by decide) (lw_case4 i0 i7 hN I hn hm kk)
    · exact hd_sw (lo := 0) (t := 233) pkL_law rfl rfl rfl (by decide) (lw_case5 i0 i7 hN I hn hm kk)
    · exact hd_sw (lo := 0) (t := 260) pkL_law rfl rfl rfl (by decide) (lw_case6 i0 i7 hN I hn hm kk)
    · exact hd_sw (lo := 0) (t := 277) pkL_law rfl rfl rfl (by decide) (lw_case7 i0 i7 hN I hn hm kk)
    · exact hd_sw (lo := 0) (t := 294) pkL_law rfl rfl rfl (by decide) (lw_case8 i0 i7 hN I hn hm kk)
    · exact hd_sw (lo := 0) (t := 311) pkL_law rfl rfl rfl (by decide) (lw_case9 i0 i7 hN I hn hm kk)
    · exact hd_sw (lo := 0) (t := 328) pkL_law rfl rfl rfl (by decide) (lw_case10 i0 i7 hN I hn hm kk)
    all_goals exact hd_swd (lo := 0) pkL_law rfl rfl rfl dflt
theorem lw_loop {N : Nat} (hN : N ≤ 448) : ∀ (k n : Nat) (h : MH) (mc ms : Nat), 64 ≤ n + k → LI N n h → RM n h mc ms → MW KL_law Qf mc ms (pcA pgL_law 13) (L0 ((7 * n : Nat) : Int)) [] h
  | 0, n, h, mc, ms, hk, I, hm => lw_step hN I hm fun hn => by omega
  | k + 1, n, h, mc, ms, hk, I, hm => lw_step hN I hm fun _ h' mc' ms' I' m' => lw_loop hN k (n + 1) h' mc' ms' (by omega) I' m'

