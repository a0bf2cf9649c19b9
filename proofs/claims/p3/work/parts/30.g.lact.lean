/-! the law's own act: it calls the program's act, and catches what that throws -/
def hhL : List (Nat × Nat × Nat × Nat) := [(0, 17, 20, 13), (0, 17, 24, 15), (0, 17, 28, 17), (0, 17, 32, 19)]
abbrev wL : Cond := Cond.codeWith yL_act cL_act 9 (some .int) hhL
theorem wL_mem : wL ∈ mTB := mTB_of (sg9 (List.mem_of_getElem? (i := 10) rfl)) rfl
abbrev KL_act : mK := (0, RL, cL_act, 9, some .int, 20, 3000)
abbrev KL_law : mK := (1, RL, cL_law, 9, some .boolean, 2040, 94000)
theorem cp_L : plainName yL_act.cls = true := by decide +kernel
/-- which row of the table catches class n -/
def hcL (n : Nat) : Nat × Nat := match n with
  | 1 => (13, 20)
  | 2 => (15, 24)
  | 3 => (17, 28)
  | _ => (19, 32)
theorem hlL : ∀ n, 1 ≤ n → n ≤ 4 → Cond.classLink RL (hcL n).1 (mxE n) ∈ mTB ∧ Cond.initialized (mxE n) ∈ mTB := by
  intro n h1 h4
  rcases (show n = 1 ∨ n = 2 ∨ n = 3 ∨ n = 4 by omega) with rfl | rfl | rfl | rfl
  · exact ⟨lkL_13, (th_X0_1 (K := kTx KX0_setMember 7 110) rfl).2.2.2.1.2.1⟩
  · exact ⟨lkL_15, (th_X7_2 (K := kTx KX7_answer 7 110) rfl).2.2.2.1.2.1⟩
  · exact ⟨lkL_17, (th_X4_3 (K := kTx KX4_answer 7 110) rfl).2.2.2.1.2.1⟩
  · exact ⟨lkL_19, (th_X7_4 (K := kTx KX7_answer 7 110) rfl).2.2.2.1.2.1⟩
section LA
variable {D : va_G} {x : Nat → Nat} {s0 : Nat} {l : Launch} {h : MH} {mc ms : Nat} {Qr : MO → MH → Prop}
def PcL (D : va_G) (x : Nat → Nat) (s0 : Nat) (As : List MV) (h : MH) : Array Value → State → Prop := fun v U => mPcX D x s0 As h v U ∧ ∀ i j : Nat, 1 ≤ i → i ≤ 4 → 1 ≤ j → j ≤ 4 → i ≠ j → va_Nc (mxE i) (mxE j) U
theorem PcL_blind {As : List MV} : FrameBlind (PcL D x s0 As h) := fun _ U g mk q =>
  ⟨mPcX_blind _ U g mk q.1, fun i j a b c d e => va_Nc.moved (u := U) (Vm.Alike.refl U.vm) (q.2 i j a b c d e)⟩
abbrev rmL (mc ms : Nat) : Room := { frames := 20, cells := mc, slots := ms, locals := 3000 }
/-- it comes back -/
theorem lact_N {As : List MV} (kN : MW KL_act Qr mc ms 0 (margs 0 As) [] h) (hn : mwid As ≤ 9) (oA : mokS As) : Met l yL_act (wL :: mTB) (rmL mc ms) (PcL D x s0 As h) (mQc D x s0 Qr) mc ms (fun q => s0 ≤ q) := by
  refine va_MetW (cc := cL_act) (maxL := 9) (ret := some .int) (hh := hhL) cp_L rfl ?_
  intro p e s m args below meth c s₁ B hml hv
  obtain ⟨⟨⟨rfl, P, hN⟩, z1, z2⟩, z3⟩ := hv
  have hts := atoms_spec B.pre
  have hl := lv_entry (As.map (mval (mad x s0))) (n := 9) (by rw [mwid_len]; exact hn)
  rw [lg_entry_eq]
  rw [margs_map] at hl
  refine kN D x s0 p l e _ s m _ below meth c s.heap [] 0 0 mc ms _ _ ⟨B.exec, B.bytes, hml, B.returns, ?_, fun w hw => hts w (List.mem_cons_of_mem _ hw), B.notSynchronized, Nat.le_refl _, Nat.le_refl _, Nat.le_refl _, Nat.le_refl _, ?_, fun q => absurd (show (0 : Nat) = 3 from q) (by decide), hN⟩ (Or.inl ⟨Or.inl rfl, rfl⟩) P va_S.rf hl (margs_ok oA 0) (fun v hv => by cases hv) (by omega) (by omega)
  · exact findClass_of_methodNamed B.named
  · have e1 := P.1
    have e2 := P.2.1
    show s0 ≤ s.heap.size
    omega
/-- it throws, and that is caught -/
theorem lact_T (hst : l.stackTraces = false) {n : Nat} (n1 : 1 ≤ n) (n4 : n ≤ 4) {p0 p1 p2 p3 p4 p5 : Int} (oA : mokS [(2, ((4 : Nat) : Int)), (0, p0), (0, p1), (0, p2), (0, p3), (0, p4), (0, p5), (2, ((2627 : Nat) : Int))]) (hX : MCalX (kTx KX11_act 10 2200) yX11_act 1 6 [(2, ((4 : Nat) : Int)), (0, p0), (0, p1), (0, p2), (0, p3), (0, p4), (0, p5)] h (XQ n h)) (h4 : 4 < h.1) (hk4 : (h.2 4).1 = 27) (hmc : 1 ≤ mc) (hms : 6 ≤ ms) :
    Met l yL_act (wL :: mTB) (rmL mc ms) (PcL D x s0 [(2, ((4 : Nat) : Int)), (0, p0), (0, p1), (0, p2), (0, p3), (0, p4), (0, p5), (2, ((2627 : Nat) : Int))] h) (mQc D x s0 (fun o h' => o = (1, (0, (n : Int))) ∧ XQ n h (2, (0, (n : Int))) h')) mc ms (fun q => s0 ≤ q) := by
  refine va_MetW (cc := cL_act) (maxL := 9) (ret := some .int) (hh := hhL) cp_L rfl ?_
  intro p e s m args below meth c s₁ B hml hv
  obtain ⟨⟨⟨rfl, P, hN⟩, z1, z2⟩, z3⟩ := hv
  have hts := atoms_spec B.pre
  have hts2 : ∀ w ∈ mTB, w.before _ s = true := fun w hw => hts w (List.mem_cons_of_mem _ hw)
  have hl := lv_entry (([(2, ((4 : Nat) : Int)), (0, p0), (0, p1), (0, p2), (0, p3), (0, p4), (0, p5), (2, ((2627 : Nat) : Int))] : List MV).map (mval (mad x s0))) (n := 9) (by rw [mwid_len]; exact Nat.le_of_ble_eq_true rfl)
  rw [lg_entry_eq]
  rw [margs_map] at hl
  generalize (lg_sl (([(2, ((4 : Nat) : Int)), (0, p0), (0, p1), (0, p2), (0, p3), (0, p4), (0, p5), (2, ((2627 : Nat) : Int))] : List MV).map (mval (mad x s0))) ++ List.replicate (9 - (lg_sl (([(2, ((4 : Nat) : Int)), (0, p0), (0, p1), (0, p2), (0, p3), (0, p4), (0, p5), (2, ((2627 : Nat) : Int))] : List MV).map (mval (mad x s0)))).length) Slot.unset).toArray = ls at hl ⊢
  have htab : c.exceptionTable.toList = tableOf hhL := vx_table (x := yL_act) B (hts _ List.mem_cons_self)
  have hown : s.vm.findClass RL = some m.cls := findClass_of_methodNamed B.named
  have hs0 : s0 ≤ s.heap.size := by
    have e1 := P.1
    have e2 := P.2.1
    omega
  have hSS : va_S (fun q => s0 ≤ q) s.heap s.heap [] := va_S.rf
  have r4 : mval (mad x s0) (2, ((4 : Nat) : Int)) = .ref (mad x s0 4) := mval_refP (mad x s0) (x := ((4 : Nat) : Int)) (Int.natCast_nonneg _)
  have r9 : mval (mad x s0) (2, ((2627 : Nat) : Int)) = .ref (mad x s0 2627) := mval_refP (mad x s0) (x := ((2627 : Nat) : Int)) (Int.natCast_nonneg _)
  refine lv_aload B.exec B.bytes (cc := cL_act) (i := 7) (x := mad x s0 2627) (by decide +kernel) (by rw [← r9]; exact (mlook_at hl rfl).1) ?_
  refine lv_iconst B.exec B.bytes (cc := cL_act) (n := 0) (v := 0) (by decide +kernel) rfl ?_
  refine lv_aload_n B.exec B.bytes (cc := cL_act) (k := 0) (i := 0) (x := mad x s0 4) (by decide +kernel) rfl (by rw [← r4]; exact (mlook_at hl rfl).1) ?_
  refine lv_iload_n B.exec B.bytes (cc := cL_act) (k := 1) (i := 1) (x := Int32.ofInt p0) (by decide +kernel) rfl (mlook_at hl (v := (0, p0)) rfl).1 ?_
  refine lv_iload_n B.exec B.bytes (cc := cL_act) (k := 2) (i := 2) (x := Int32.ofInt p1) (by decide +kernel) rfl (mlook_at hl (v := (0, p1)) rfl).1 ?_
  refine lv_iload_n B.exec B.bytes (cc := cL_act) (k := 3) (i := 3) (x := Int32.ofInt p2) (by decide +kernel) rfl (mlook_at hl (v := (0, p2)) rfl).1 ?_
  refine lv_iload B.exec B.bytes (cc := cL_act) (i := 4) (x := Int32.ofInt p3) (by decide +kernel) (mlook_at hl (v := (0, p3)) rfl).1 ?_
  refine lv_iload B.exec B.bytes (cc := cL_act) (i := 5) (x := Int32.ofInt p4) (by decide +kernel) (mlook_at hl (v := (0, p4)) rfl).1 ?_
  refine lv_iload B.exec B.bytes (cc := cL_act) (i := 6) (x := Int32.ofInt p5) (by decide +kernel) (mlook_at hl (v := (0, p5)) rfl).1 ?_
  have hCF : CallFix p m c cL_act 9 s _ mTB RL := ⟨B.exec, B.bytes, hml, hown, hts2⟩
  have oA6 : mokS [(2, ((4 : Nat) : Int)), (0, p0), (0, p1), (0, p2), (0, p3), (0, p4), (0, p5)] := fun v hv => oA v (List.mem_append_left [(2, ((2627 : Nat) : Int))] hv)
  have hM2 := hX D x s0 l hst oA6
  obtain ⟨q1, q2, q3, q4, q5, q6⟩ := mtab_ok (KX11_act, yX11_act, 11, 6, 0) (List.mem_of_getElem? (i := 384) rfl)
  obtain ⟨s1, s2, -, -, s3⟩ := q6 rfl
  have hrec : ∃ cellB : Cell, s.heap[mad x s0 4]? = some cellB ∧ cellB.vm.isStatics = false ∧ s.vm.findClass RX11 = some cellB.cls := va_recv P.2.2.1 (P.obj (a := 4) (ci := 11) h4 hk4 (show mcl[11]? = some (RX11, TX11, 10) from rfl)) (show mcl[11]? = some (RX11, TX11, 10) from rfl) (q0 := 0) rfl
  have hm1 : (1 : Nat) ≤ (headSpec (wL :: mTB) (rmL mc ms)).room.cells := hmc
  have hm2 : (6 : Nat) ≤ (headSpec (wL :: mTB) (rmL mc ms)).room.slots := hms
  have run := vx_runV (e := e) (below := below) (meth := meth) (locs := []) (cells := 0) (slots := 0) (R := (headSpec (wL :: mTB) (rmL mc ms)).room) (As := ([(0, p0), (0, p1), (0, p2), (0, p3), (0, p4), (0, p5)] : List MV).map (mval (mad x s0))) (rest := [.int 0, .ref (mad x s0 2627)]) (index := 7) (b := mad x s0 4) hCF hM2 (cwV 6 hts2 (mTB_wsV lmL_7 s1 s2 q1.2 q1.1) rfl rfl rfl ⟨rfl, q4.1, q4.2.1, q4.2.2⟩ ⟨Nat.le_of_ble_eq_true rfl, Nat.le_of_ble_eq_true rfl⟩) ⟨mPcX_blind, hrec, fun U hU hW => ⟨⟨by rw [← r4]; rfl, by rw [hU]; exact P.moved hW.alike, mNs.warm hW hN⟩, by rw [hU]; exact z1.moved hW.alike, by rw [hU]; exact z2.moved hW.alike⟩⟩ (g := F0 m 13 ls ([.int (Int32.ofInt p5), .int (Int32.ofInt p4), .int (Int32.ofInt p3), .int (Int32.ofInt p2), .int (Int32.ofInt p1), .int (Int32.ofInt p0), .ref (mad x s0 4), .int 0, .ref (mad x s0 2627)])) rfl rfl hl.1 rfl (Nat.le_of_ble_eq_true rfl) (show decode cL_act 13 = .ok (.invokevirtual 7, 3) by decide +kernel) ⟨by omega, by omega⟩
  intro T hT X
  rcases run T hT X with ⟨v, st₀, t, T', L', h0', X', hL, e1, e2, hq, st'⟩ | ⟨q, st₀, t, T', L', E, ce, h0', X', hL, e1, e2, hxc, hce, hcv, hcl, st'⟩
  · obtain ⟨o, h', ⟨rfl, -⟩, ov, ho, -⟩ := hq
    rcases ho with ⟨z, -⟩ | ⟨z, -⟩
    · exact absurd (show (2 : Nat) = 0 from z) (by decide)
    · exact absurd (show (2 : Nat) = 1 from z) (by decide)
  · obtain ⟨n', h', hr', rfl, P', hz, hkp⟩ := hxc
    obtain ⟨en, J', F'⟩ := hr'
    have en : ((2 : Nat), ((0 : Nat), (n' : Int))) = (2, (0, (n : Int))) := en
    have en : n' = n := by
      injection en with _ en
      injection en with _ en
      exact Int.ofNat.inj en
    subst en
    rw [h0'] at hz hkp
    have hvm : t.vm.Alike s.vm := by rw [← e2]; exact (X'.warmed.alike).symm
    have SS' : va_S (fun q => s0 ≤ q) s.heap t.heap ([] ++ L') := by
      refine ⟨hz, fun q h1 h2 => hkp q h1 h2, fun q hq => ?_⟩
      rcases List.mem_append.mp hq with z | z
      · cases z
      · exact hL q z
    have hcast : (Cond.castable (mxE n') (mxE n')).before _ s = true := cst_of (hts2 _ (hlL n' n1 n4).2) ⟨_, hcl⟩
    have hno : ∀ j, 1 ≤ j → j ≤ 4 → j ≠ n' → ((hcL j).1 ≠ 0 ∧ ∃ nm : String, (Cond.classLink RL (hcL j).1 nm).before _ s = true ∧ va_Nc (mxE n') nm s) := fun j j1 j4 jn => ⟨by unfold hcL; split <;> decide, mxE j, hts2 _ (hlL j j1 j4).1, z3 n' j n1 n4 j1 j4 (fun z => jn z.symm)⟩
    have fin : ∀ (pc' : Nat) (i1 : decode cL_act pc' = .ok (.astore 8, 2)) (i2 : decode cL_act (pc' + 2) = .ok (.iconst (n' : Int), 1)) (i3 : decode cL_act (pc' + 2 + 1) = .ok (.ireturn, 1)), W p l e (headSpec (wL :: mTB) (rmL mc ms)).room s m (([(2, ((4 : Nat) : Int)), (0, p0), (0, p1), (0, p2), (0, p3), (0, p4), (0, p5), (2, ((2627 : Nat) : Int))] : List MV).map (mval (mad x s0))).toArray below meth c t.heap ([] ++ L') (0 + 1) (0 + 6) (MQ below (mQc D x s0 (fun o h' => o = (1, (0, (n' : Int))) ∧ XQ n' h (2, (0, (n' : Int))) h')) (([(2, ((4 : Nat) : Int)), (0, p0), (0, p1), (0, p2), (0, p3), (0, p4), (0, p5), (2, ((2627 : Nat) : Int))] : List MV).map (mval (mad x s0))).toArray s mc ms (fun q => s0 ≤ q)) (F0 m pc' ls [.ref q]) := by
      intro pc' i1 i2 i3
      refine lv_astore B.exec B.bytes i1 hl (by decide) rfl (fun ls' hl' => ?_)
      refine lv_iconst B.exec B.bytes i2 rfl ?_
      refine W.widen (k := mc) (n := ms) (by omega) (by omega) ?_
      exact W.zret B.exec B.bytes B.returns rfl (fun t' ht hW => ⟨(1, (0, (n' : Int))), h', ⟨rfl, rfl, J', F'⟩, by show -2147483648 ≤ (n' : Int) ∧ (n' : Int) ≤ 2147483647; omega, Or.inr ⟨rfl, rfl⟩, by rw [ht]; exact (P'.moved hvm).moved hW.alike, SS'.F ht⟩) SS'.2.2 i3 B.notSynchronized
    have kk : vx_W p l e (headSpec (wL :: mTB) (rmL mc ms)).room s m (([(2, ((4 : Nat) : Int)), (0, p0), (0, p1), (0, p2), (0, p3), (0, p4), (0, p5), (2, ((2627 : Nat) : Int))] : List MV).map (mval (mad x s0))).toArray below meth c t.heap ([] ++ L') (0 + 1) (0 + 6) (MQ below (mQc D x s0 (fun o h' => o = (1, (0, (n' : Int))) ∧ XQ n' h (2, (0, (n' : Int))) h')) (([(2, ((4 : Nat) : Int)), (0, p0), (0, p1), (0, p2), (0, p3), (0, p4), (0, p5), (2, ((2627 : Nat) : Int))] : List MV).map (mval (mad x s0))).toArray s mc ms (fun q => s0 ≤ q)) (F0 m 13 ls [.int 0, .ref (mad x s0 2627)]) q := by
      rcases (show n' = 1 ∨ n' = 2 ∨ n' = 3 ∨ n' = 4 by omega) with rfl | rfl | rfl | rfl
      · exact vx_catch (own := RL) (name := mxE 1) hown [] ⟨0, 17, 20, 13⟩ [⟨0, 17, 24, 15⟩, ⟨0, 17, 28, 17⟩, ⟨0, 17, 32, 19⟩] htab (fun z hz => by cases hz) rfl (by decide) (hts2 _ lkL_13) hcast hce hcv hcl (fin 20 (by decide +kernel) (by decide +kernel) (by decide +kernel))
      · exact vx_catch (own := RL) (name := mxE 2) hown [⟨0, 17, 20, 13⟩] ⟨0, 17, 24, 15⟩ [⟨0, 17, 28, 17⟩, ⟨0, 17, 32, 19⟩] htab (List.forall_mem_cons.mpr ⟨Or.inr (hno 1 (by decide) (by decide) (by decide)), fun z hz => by cases hz⟩) rfl (by decide) (hts2 _ lkL_15) hcast hce hcv hcl (fin 24 (by decide +kernel) (by decide +kernel) (by decide +kernel))
      · exact vx_catch (own := RL) (name := mxE 3) hown [⟨0, 17, 20, 13⟩, ⟨0, 17, 24, 15⟩] ⟨0, 17, 28, 17⟩ [⟨0, 17, 32, 19⟩] htab (List.forall_mem_cons.mpr ⟨Or.inr (hno 1 (by decide) (by decide) (by decide)), List.forall_mem_cons.mpr ⟨Or.inr (hno 2 (by decide) (by decide) (by decide)), fun z hz => by cases hz⟩⟩) rfl (by decide) (hts2 _ lkL_17) hcast hce hcv hcl (fin 28 (by decide +kernel) (by decide +kernel) (by decide +kernel))
      · exact vx_catch (own := RL) (name := mxE 4) hown [⟨0, 17, 20, 13⟩, ⟨0, 17, 24, 15⟩, ⟨0, 17, 28, 17⟩] ⟨0, 17, 32, 19⟩ [] htab (List.forall_mem_cons.mpr ⟨Or.inr (hno 1 (by decide) (by decide) (by decide)), List.forall_mem_cons.mpr ⟨Or.inr (hno 2 (by decide) (by decide) (by decide)), List.forall_mem_cons.mpr ⟨Or.inr (hno 3 (by decide) (by decide) (by decide)), fun z hz => by cases hz⟩⟩⟩) rfl (by decide) (hts2 _ lkL_19) hcast hce hcv hcl (fin 32 (by decide +kernel) (by decide +kernel) (by decide +kernel))
    obtain ⟨t2, a1, b1⟩ := kk T' e1 X'
    exact ⟨t2, st'.trans a1, b1⟩
end LA
section LC
variable {Qr Qr' : MO → MH → Prop} {mc ms mc' ms' : Nat} {L : List (Nat × MV)} {S As : List MV} {h : MH}
/-- the law calls its act -/
theorem m_lact {pc : Nat} (hd : decode cL_law pc = .ok (.invokestatic 25, 3)) (hn : As.length = 8) (hwd : (S.map mcat).sum ≤ 8) (hmc : mc' ≤ mc) (hms : ms' ≤ ms)
    (hM : ∀ (D : va_G) (x : Nat → Nat) (s0 : Nat) (l : Launch), l.stackTraces = false → mokS As → Met l yL_act (wL :: mTB) (rmL mc' ms') (PcL D x s0 As h) (mQc D x s0 Qr') mc' ms' (fun q => s0 ≤ q))
    (kk : ∀ (r : MO) (h' : MH), Qr' r h' → (r.1 = 0 → MW KL_law Qr (mc - mc') (ms - ms') (pc + 3) L S h') ∧ (r.1 = 1 → MW KL_law Qr (mc - mc') (ms - ms') (pc + 3) L (r.2 :: S) h')) : MW KL_law Qr mc ms pc L (As.reverse ++ S) h := by
  intro D a s0 p l e R s m args below meth c H locs cells slots MC MS Q ls cx F P SS hl oL oS hc' hs
  have oA : mokS As := fun v hv => (mokS_app oS).1 v (List.mem_reverse.mpr hv)
  have oR : mokS S := (mokS_app oS).2
  have hts := cx.2.2.2.2.2.1
  have hX : CallFix p m c KL_law.2.2.1 KL_law.2.2.2.1 s args mTB KL_law.2.1 := ⟨cx.1, cx.2.1, cx.2.2.1, cx.2.2.2.2.1, hts⟩
  have hf : cells + mc' ≤ R.cells ∧ slots + ms' ≤ R.slots := ⟨by have := cx.2.2.2.2.2.2.2.2.2.1; omega, by have := cx.2.2.2.2.2.2.2.2.2.2.1; omega⟩
  have hR : (rmL mc' ms').frames + 1 ≤ R.frames ∧ 8 + (9 + 11) + (rmL mc' ms').locals ≤ R.locals := by
    have q1 : 2040 ≤ R.frames := cx.2.2.2.2.2.2.2.1
    have q2 : 94000 ≤ R.locals := cx.2.2.2.2.2.2.2.2.1
    exact ⟨by show 20 + 1 ≤ _; omega, by show 8 + (9 + 11) + 3000 ≤ _; omega⟩
  have hwd' : 2 * (F0 m pc ls (mS (mad a s0) (As.reverse ++ S))).monitorRoom + ((mS (mad a s0) S).map fun v => v.category).sum ≤ 8 := by
    rw [mS_cat]
    show 2 * 0 + _ ≤ 8
    omega
  have hsk : mS (mad a s0) (As.reverse ++ S) = (As.map (mval (mad a s0))).reverse ++ mS (mad a s0) S := by
    rw [mS_append]
    show List.map _ As.reverse ++ mS (mad a s0) S = _
    rw [List.map_reverse]
  have hn : (As.map (mval (mad a s0))).length = 8 := by rw [List.length_map, hn]
  obtain ⟨hex, s1, d0, e3, hd0, e4⟩ : (1000 ≤ KL_law.2.2.2.2.2.1 → mEX l s s0) ∧ ∃ (s1 : State) (d0 : Drawn), s = s1.setDrawn d0 ∧ s1.drawn.sameBut d0 lw_cs ∧ Q = MQD lw_cs below (mQc D a s0 Qr) args s1 MC MS (fun q => s0 ≤ q) := by
    rcases F with ⟨z, -⟩ | ⟨-, z⟩ | ⟨z, -⟩
    · rcases z with z | z <;> exact absurd z (by decide)
    · exact z
    · exact absurd z (by decide)
  obtain ⟨hst, z1, z2, z3⟩ := hex (by decide)
  refine m_after (A := (As.map (mval (mad a s0))).toArray) hmc hms cx F SS hl oL oR hc' hs (Or.inr ⟨rfl, ?_⟩) kk
  exact (vx_runSW (As := As.map (mval (mad a s0))) (rest := mS (mad a s0) S) (hh := hhL) (bytes := cL_act) (maxL := 9) (ret := some .int) (index := 25) (y := yL_act) hX (hM D a s0 l hst oA) (vx_cwSW 8 hts (mTB_in fun w hw => by
    unfold va_wsS at hw
    rcases List.mem_append.mp hw with z | z
    · simp only [List.mem_cons, List.not_mem_nil, or_false] at z
      rcases z with rfl | rfl | rfl
      · exact lmL_25
      · exact lv_L_act_s
      · exact li_L
    · exact (List.mem_cons.mp z).elim (fun q => q ▸ wL_mem) id) rfl rfl rfl ⟨by decide, by decide, rfl⟩ hR) ⟨PcL_blind, fun U hU hW => ⟨⟨⟨rfl, by rw [hU]; exact P.moved hW.alike, mNs.warm hW cx.2.2.2.2.2.2.2.2.2.2.2.2.2⟩, by rw [hU]; exact (z1.kept fun q q1 q2 => SS.2.1 q q1 q2).moved hW.alike, by rw [hU]; exact (z2.kept fun q q1 q2 => SS.2.1 q q1 q2).moved hW.alike⟩, fun i j i1 i2 i3 i4 i5 => (z3 i j i1 i2 i3 i4 i5).moved hW.alike⟩⟩ rfl hn hl.1 hsk hwd' hd hf).toD
end LC
