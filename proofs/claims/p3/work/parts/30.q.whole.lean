/-! the claim out of one walk of the law -/
/-! THE CLAIM OUT OF ONE WALK OF THE LAW'S BODY. Your part is whole_start (and what it stands on); all else here is the same for every law, but numbers. -/
def R_law : String := "RoadHouseLaw"
def lw_P (b : Addr) (xs : List Int32) (args : Array Value) (s : State) : Prop := args = #[.ref b] ∧ s.IntsAt b xs ∧ xs.length ≤ 448 ∧ (Jvm.Cond.and given_1 narrow_1).before args s = true
/-- what a walk over the start with the record d0 says of its end, said of the start itself -/
theorem lw_closed {s t : State} {o : Outcome} {d0 : Drawn} {L : List Loc} {k n : Nat} (hd0 : s.drawn.sameBut d0 lw_cs) (hv : ∃ v, o = .returned v) (hW : (s.setDrawn d0).WarmedH t.vm) (hs : (s.setDrawn d0).sameButNew ({ t with vm := s.vm } : State) L k n) : State.butDraws s t lw_cs (fun t1 => Framed s o t1 L k n) := by
  have h2 : t.drawn = d0 := congrArg State.drawn hs.1
  refine ⟨⟨hv, hW, State.sameButNew.setDrawn hs s.drawn⟩, ?_, by decide⟩
  rw [h2]
  exact hd0
def lw_Q (_ : Array Value) (s : State) (o : Outcome) (t : State) : Prop := o = .returned (some (.int 1)) ∧ State.butDraws s t lw_cs (fun t1 => Framed s o t1 [] room_1.cells room_1.slots)
def lw_Z (below : List Frame) (a : Array Value) (s : State) : State → Prop := fun t => ∃ o, t.status = .running ∧ Ended t below o ∧ lw_Q a s o t
/-- the law's own end, with 1 on the stack, nothing written that was there before, its room as the claim has it; d0: the record of draws at this point (at the entry s.drawn: begin with 'refine W.base ?_' and 'have hd0 := Drawn.sameBut.refl s.drawn lw_cs') -/
theorem lw_ret {p : Program} {l : Launch} {e : Env} {s : State} {m : MethodId} {below : List Frame} {meth : Method} {c : Code} {b : Nat} {d0 : Drawn} (hd0 : s.drawn.sameBut d0 lw_cs) (hx : p.tables.exec = Jvm.exec) (hb : c.code = code) (hr : meth.sig.returnType = ret) (hlocks : meth.locks = false) {pc : Nat} {H : Heap} {ls : Array Slot} (hdg : decode code pc = .ok (.ireturn, 1)) : W p l e room_1 (s.setDrawn d0) m #[Value.ref b] below meth c H [] room_1.cells room_1.slots (lw_Z below #[Value.ref b] s) (F0 m pc ls [.int 1]) := by
  intro T hT X
  obtain ⟨fs, hret, hrun, hended, hW, hframe⟩ := X.leave (v := some (.int 1)) (hlocks := hlocks) (fun h => by rw [hr] at h; cases h)
  have hmeth' : T.vm.method? m = some meth := X.method'
  refine ⟨T.setFrames fs, ?_, .returned (some (.int 1)), hrun, hended, rfl, lw_closed hd0 ⟨_, rfl⟩ hW hframe⟩
  jvm_step X.here [X.here.top, hx, hb, hdg, hmeth', hr, ret, narrow_b1]
  (try refine ⟨rfl, ?_⟩); (try refine ⟨rfl, ?_⟩)
  first | (intro acts; rw [hret _ acts rfl rfl rfl]) | rw [hret _ _ rfl rfl rfl]
  exact Steps.refl _
/-- what holds at the law's entry: the machine, the code, the tables' words (any of lw_tbl by 'hts w (by decide +kernel)'), the script of L ints xs at the cell b, what the Statement gives of the start (any of its parts by flat_of_before) -/
def lw_At (p : Program) (s : State) (m : MethodId) (meth : Method) (c : Code) (b L : Nat) (xs : Nat → Int32) : Prop :=
  p.tables.exec = Jvm.exec ∧ c.code = code ∧ meth.sig.returnType = ret ∧ c.maxLocals = 9 ∧ s.vm.findClass R_law = some m.cls ∧ (∀ w ∈ lw_tbl, w.before #[Value.ref b] s = true) ∧ va_X b L xs s s.heap ∧ b < s.heap.size ∧ meth.locks = false ∧ (Jvm.Cond.and given_1 narrow_1).before #[Value.ref b] s = true
/-- from the entry, for every script of at most 448 ints, the law comes to its end with true -/
theorem whole_start {p : Program} {e : Env} {s : State} {m : MethodId} {below : List Frame} {meth : Method} {c : Code} (l : Launch) (hflags : l.flags = flags0) {b L : Nat} {xs : Nat → Int32} (hL : L ≤ 448) (C0 : lw_At p s m meth c b L xs) : W p l e room_1 s m #[Value.ref b] below meth c s.heap [] 0 0 (lw_Z below #[Value.ref b] s) (entryFrame m ([Value.ref b] : List Value).toArray 9) := by
  obtain ⟨hx, hb, hr, hml, hown, hts, hX, hbl, hlocks, hgv⟩ := id C0
  have hs := flat_of_before _ hgv
  have htB : ∀ w ∈ mTB, w.before #[Value.ref b] s = true := fun w hw => hts w (List.mem_filter.mp hw).1
  obtain ⟨D, hK⟩ := ent_D m.cls htB
  obtain ⟨a1, c1, p1, p2, p3, p4, p5, p6, p7⟩ := ent_arr (C := "RoadHouse$Way") (n := "DX") (v := dxv) (hs _ (by decide +kernel)) (hs _ (by decide +kernel)) (fun j hj => hs _ (by revert hj; revert j; decide +kernel))
  obtain ⟨a2, c2, q1, q2, q3, q4, q5, q6, q7⟩ := ent_arr (C := "RoadHouse$Way") (n := "DY") (v := dyv) (hs _ (by decide +kernel)) (hs _ (by decide +kernel)) (fun j hj => hs _ (by revert hj; revert j; decide +kernel))
  obtain ⟨a3, c3, r1, r2, r3, r4, r5, r6, r7⟩ := ent_arr (C := "RoadHouse$Way") (n := "LENGTH") (v := lnv) (hs _ (by decide +kernel)) (hs _ (by decide +kernel)) (fun j hj => hs _ (by revert hj; revert j; decide +kernel))
  have hA : ∀ a : Nat, a < s.heap.size → ¬ (fun q : Nat => s.heap.size ≤ q) a := fun a h z => absurd (show s.heap.size ≤ a from z) (Nat.not_le.mpr h)
  have hi10 : (Cond.initialized "RoadHouse$Way").before #[Value.ref b] s = true := htB _ li_X10
  have Z1 := va_Zref (A := fun q : Nat => s.heap.size ≤ q) (hts (.laysStatic "RoadHouse$Way" "DX" "[I") (by decide +kernel)) hi10 p1 hA
  have Z2 := va_Zref (A := fun q : Nat => s.heap.size ≤ q) (hts (.laysStatic "RoadHouse$Way" "DY" "[I") (by decide +kernel)) hi10 q1 hA
  have Z3 := va_Zref (A := fun q : Nat => s.heap.size ≤ q) (hts (.laysStatic "RoadHouse$Way" "LENGTH" "[I") (by decide +kernel)) hi10 r1 hA
  obtain ⟨scr, s1, s2, s3, s4, s5⟩ := hX
  let x : Nat → Nat := fun k => match k with
    | 0 => b
    | 1 => a1
    | 2 => a2
    | _ => a3
  have P : mRep D x s.heap.size s s.heap (hbS0 L (fun j => (xs j).toInt) dxv dyv lnv) := by
    refine ⟨Nat.le_refl 4, rfl, hK, fun a ha => ?_, fun k hk => ?_, fun a h4 ha => absurd (show a < 4 from ha) (by omega)⟩
    · have ha : a < 4 := ha
      rcases (show a = 0 ∨ a = 1 ∨ a = 2 ∨ a = 3 by omega) with rfl | rfl | rfl | rfl
      · exact fun j _ => mI_rng (xs j)
      · exact fun j hj => by
          have := (wv_ok j hj).1
          show -2147483648 ≤ dxv j ∧ dxv j ≤ 2147483647
          omega
      · exact fun j hj => by
          have := (wv_ok j hj).2.1
          show -2147483648 ≤ dyv j ∧ dyv j ≤ 2147483647
          omega
      · exact fun j hj => by
          have := (wv_ok j hj).2.2
          show -2147483648 ≤ lnv j ∧ lnv j ≤ 2147483647
          omega
    · rcases (show k = 0 ∨ k = 1 ∨ k = 2 ∨ k = 3 by omega) with rfl | rfl | rfl | rfl
      · exact ⟨hbl, rfl, ⟨scr, s1, s2, s3, by show L ≤ _; omega, by rw [s4]; rfl, fun j hj => by
          rw [s5 j hj]
          show some (Value.int (xs j)) = some (Value.int (Int32.ofInt (xs j).toInt))
          rw [Int32.ofInt_toInt]⟩, Or.inl rfl⟩
      · exact ⟨(Array.getElem?_eq_some_iff.mp p2).1, rfl, ⟨c1, p2, p3, p4, p5, p6, p7⟩, Or.inr Z1⟩
      · exact ⟨(Array.getElem?_eq_some_iff.mp q2).1, rfl, ⟨c2, q2, q3, q4, q5, q6, q7⟩, Or.inr Z2⟩
      · exact ⟨(Array.getElem?_eq_some_iff.mp r2).1, rfl, ⟨c3, r2, r3, r4, r5, r6, r7⟩, Or.inr Z3⟩
  have hN : mNs s := by
    refine ⟨fun q hq => va_Nw.of rfl (A := #[Value.ref b]) (hts _ ?_), va_Nw.of rfl (A := #[Value.ref b]) (hts _ (by decide +kernel)), va_Nw.of rfl (A := #[Value.ref b]) (hts _ (by decide +kernel)), over_moved (a := #[Value.ref b]) (a' := #[]) (Vm.Alike.refl _) (hts _ (by decide +kernel)), over_moved (a := #[Value.ref b]) (a' := #[]) (Vm.Alike.refl _) (hts _ (by decide +kernel)), va_AO.of (A := #[Value.ref b]) (hts _ (by decide +kernel))⟩
    revert q
    decide +kernel
  have hEX : mEX l s s.heap.size := by
    refine ⟨?_, vx_Zqof (hts _ (by decide +kernel)) (hts _ (by decide +kernel)) (hs _ (by decide +kernel)) hA, vx_Zqof (hts _ (by decide +kernel)) (hts _ (by decide +kernel)) (hs _ (by decide +kernel)) hA, fun i j i1 i4 j1 j4 ij => ?_⟩
    · unfold Launch.stackTraces
      rw [hflags]
      decide +kernel
    · rcases (show i = 1 ∨ i = 2 ∨ i = 3 ∨ i = 4 by omega) with rfl | rfl | rfl | rfl <;> rcases (show j = 1 ∨ j = 2 ∨ j = 3 ∨ j = 4 by omega) with rfl | rfl | rfl | rfl <;> first
        | exact absurd rfl ij
        | exact va_Nc.of (hs _ (by decide +kernel))
  have hl := lv_entry ([.ref b]) (n := 9) (Nat.le_of_ble_eq_true rfl)
  rw [lg_entry_eq]
  generalize (lg_sl ([.ref b]) ++ List.replicate (9 - (lg_sl ([.ref b])).length) Slot.unset).toArray = ls at hl ⊢
  have hl : lv_has ls 9 (mL (mad x s.heap.size) [(0, (2, ((0 : Nat) : Int)))]) := hl
  have k := law_all hL (fun j => (xs j).toInt) D x s.heap.size p l e room_1 s m #[Value.ref b] below meth c s.heap [] 0 0 room_1.cells room_1.slots (MQD lw_cs below (mQc D x s.heap.size Qf) #[Value.ref b] s room_1.cells room_1.slots (fun q => s.heap.size ≤ q)) ls ⟨hx, hb, hml, hr, hown, htB, hlocks, by decide, by decide, by decide, by decide, Nat.le_refl _, fun z => absurd (show (1 : Nat) = 3 from z) (by decide), hN⟩ (Or.inr (Or.inl ⟨rfl, fun _ => hEX, s, s.drawn, rfl, Drawn.sameBut.refl _ _, rfl⟩)) P va_S.rf hl (fun q hq => by rw [List.mem_singleton.mp hq]; trivial) (fun v hv => by cases hv) (by decide) (by decide)
  have e0 : pcA pgL_law 0 = 0 := by decide +kernel
  rw [e0] at k
  intro T hT X
  obtain ⟨t, st, d, hd, o, h1, h2, ⟨r, h', hq, -, ho, -⟩, J, ⟨hv, hW, hsm⟩, hJ⟩ := k T hT X
  cases hq
  have ho : o = .returned (some (.int 1)) := by
    rcases ho with ⟨z, -⟩ | ⟨-, z⟩
    · exact absurd z (by decide)
    · exact z
  subst ho
  have hsm2 : (s.setDrawn d).sameButNew ({ t with vm := s.vm } : State) ([] ++ J) room_1.cells room_1.slots := hsm
  exact ⟨t, st, _, h1, h2, rfl, lw_closed hd ⟨_, rfl⟩ hW (hsm2.drop_fresh fun y hy => hJ y hy)⟩
set_option maxHeartbeats 4000000 in
theorem lw_walk (l : Launch) (hflags : l.flags = flags0) (b : Addr) (xs : List Int32) : MetFree l x (headSpec (Jvm.Cond.code x code maxLocals ret :: tables_1) room_1) (lw_P b xs) (fun _ _ _ _ _ => True) lw_Q := by
  refine MetFree.of_bodyS (code := code) (maxLocals := maxLocals) (ret := ret) (by decide) ?_ ?_
  · intro args s m h hn
    obtain ⟨meth, c, h1, h2, h3, h4, h5, h6, -, -⟩ := Cond.code_spec hn (atoms_spec (ws := Jvm.Cond.code x code maxLocals ret :: tables_1) h _ List.mem_cons_self)
    exact ⟨meth, c, h1, h2, h3, h4, h5, h6⟩
  · intro p e s m args below meth c s₁ B hml0 hP _
    obtain ⟨rfl, hx, hbd, hgv⟩ := hP
    obtain ⟨scr, harrAt, hlist, hof, hsmall⟩ := hx
    obtain ⟨hcb, hkn, -, -⟩ := State.arrayAt?_spec harrAt
    have hown : s.vm.findClass R_law = some m.cls := findClass_of_methodNamed B.named
    have hts0 : ∀ c ∈ (Jvm.Cond.code x code maxLocals ret :: tables_1), c.before #[Value.ref b] s = true := atoms_spec (ws := Jvm.Cond.code x code maxLocals ret :: tables_1) B.pre
    have hts : ∀ w ∈ lw_tbl, w.before #[Value.ref b] s = true := k2_hts_sels lw_privs (fun w hw => hts0 w (List.mem_cons_of_mem _ hw)) lw_privs_ok
    have hml : c.maxLocals = 9 := B.maxLocals_eq (hts0 _ List.mem_cons_self)
    have X₀ : Stand p l e room_1 s m #[Value.ref b] below meth c s₁ [] 0 0 := Stand.of_body B
    have hh0 : s₁.heap = s.heap := by rw [B.state]; rfl
    have hsz : scr.slots.size = xs.length := by rw [← Array.length_toList, hlist, List.length_map]
    have hval : ∀ j : Nat, j < xs.length → scr.slots[j]? = some (.int (xs.getD j 0)) := fun j hj => by
      rw [← Array.getElem?_toList, hlist]
      simp [hj]
    have hbl : b < s.heap.size := (Array.getElem?_eq_some_iff.mp hcb).1
    have hX : va_X b xs.length (fun j => xs.getD j 0) s s.heap := ⟨scr, hcb, hof, hkn, hsz, hval⟩
    have K : W p l e room_1 s m #[Value.ref b] below meth c s₁.heap [] 0 0 (lw_Z below #[Value.ref b] s) (entryFrame m ([Value.ref b] : List Value).toArray 9) := by
      rw [hh0]
      exact whole_start l hflags hbd ⟨B.exec, B.bytes, B.returns, hml, hown, hts, hX, hbl, B.notSynchronized, hgv⟩
    obtain ⟨t, a1, o, b1, b2, b3⟩ := K s₁ rfl X₀
    exact ⟨t, o, a1, b1, b2, b3⟩
theorem lw_pre_spec {args : Array Value} {s : State} (h : (Jvm.Cond.and given_1 narrow_1).before args s = true) (hr : rest_1_c.before args s = true) : ∃ (b : Addr) (xs : List Int32), lw_P b xs args s := by
  have hs := flat_of_before _ h
  have hq := flat_of_before _ hr
  have hc : (Cond.count 1).before args s = true := hs _ (by decide +kernel)
  have harr : (Cond.arrayOf (.arg 0) .int).before args s = true := hs _ (by decide +kernel)
  have hle : (Cond.le (.length (.arg 0)) (.int 448)).before args s = true := hs _ (by decide +kernel)
  have hlen : (Cond.isInt (.length (.arg 0))).before args s = true := hq _ (by decide +kernel)
  have hall : (Cond.all (.arg 0) (.isInt (.elem (.arg 0) (.index 0)))).before args s = true := hq _ (by decide +kernel)
  obtain ⟨b, xs, hb, hx⟩ := State.ints_of_pre rfl harr hlen hall
  have hsm : xs.length < 2 ^ 31 := hx.choose_spec.2.2.2
  have hev : (Term.length (.arg 0)).eval args s none [] s = some (.int xs.length.toInt32) := hx.length_eval hb
  have hv := Cond.le_ints hev (show (Term.int 448).eval args s none [] s = some (.int 448) from rfl)
  have hd : xs.length.toInt32 ≤ 448 := by
    simpa [Cond.before, Cond.holds, hv] using hle
  have hN : xs.length ≤ 448 := (Int32.ofNat_le_ofNat hsm (by decide)).mp (show Int32.ofNat xs.length ≤ Int32.ofNat 448 from hd)
  exact ⟨b, xs, Cond.one_arg hc (show args[0]? = some (.ref b) from hb), hx, hN, h⟩
theorem lw_comes (l : Launch) (hflags : l.flags = flags0) : Comes l x (Jvm.Cond.code x code maxLocals ret :: tables_1) room_1 (fun tb e args s => Calls_1 tb e args s ∧ rest_1 tb e args s ∧ Pre_1 tb e args s)
    (fun _ _ args s o t => lw_Q args s o t) := by
  intro p e ha hc hk s m args below hf hfit hheap happ hpre
  obtain ⟨b, xs, hP⟩ := lw_pre_spec hpre.2.2 hpre.2.1
  obtain ⟨k, o, h1, h2, h3, hQ⟩ := lw_walk l hflags b xs p e ha hc hk s m args below hf ((Spec.applies_iff_loose hf).mp happ).1 hP trivial
  exact ⟨k, o, h1, h2, h3, hQ⟩
theorem lw_frame {s t : State} {o : Outcome} {args : Array Value} (h : State.butDraws s t lw_cs (fun t1 => Framed s o t1 [] room_1.cells room_1.slots)) :
    State.butDraws s t [Jvm.Choice.named "NaN.bits"] (fun t1 => Framed s o t1 (fieldLocs frame_1_writes args s ++ arrayLocs frame_1_arrays args s ++ staticLocs frame_1_statics s) room_1.cells room_1.slots) := h
theorem lw_limb (L : Cond) (hL : ∀ (args : Array Value) (s t : State), L.after args s (.returned (some (.int 1))) t = true) :
    ArmFor flags0 classFile x code maxLocals ret World_1 tables_1 room_1 Calls_1 rest_1 Pre_1
      (fun tb e a s o t => postC L tb e a s o t ∧ State.butDraws s t [Jvm.Choice.named "NaN.bits"] (fun t1 => Framed s o t1 (fieldLocs frame_1_writes a s ++ arrayLocs frame_1_arrays a s ++ staticLocs frame_1_statics s) room_1.cells room_1.slots)) := by
  intro l hflags _ _ p e ha hc hk s m args below hf hfit hheap happ hpre
  obtain ⟨k, o, h1, h2, h3, rfl, hF⟩ := lw_comes l hflags p e ha hc hk s m args below hf hfit hheap happ hpre
  exact ⟨k, _, h1, h2, h3, hL args s _, lw_frame hF⟩
theorem i_vc : Claimed_1_1 ∧ Claimed_1_2 := ⟨lw_limb limb_1_1 (fun args s t => by simp [limb_1_1, Cond.after, Cond.holds, Cond.value]), lw_limb limb_1_2 (fun args s t => Cond.after_iff.mpr (by
  first | (rw [show limb_1_2 = Cond.eq .result (.int 1) from rfl, Cond.eq_ints (x := 1) (y := 1) rfl rfl]; simp; done) | (simp [limb_1_2, Cond.value, Term.eval]; done)))⟩

