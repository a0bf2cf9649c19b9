/-! throws: cells of which nothing is known, a throw, calls of what throws -/
def jnk (h : MH) : Nat → MH
  | 0 => h
  | n + 1 => hnew (jnk h n) (99, 0, fun _ => 0)
theorem jnk_1 (h : MH) : ∀ n, (jnk h n).1 = h.1 + n
  | 0 => rfl
  | n + 1 => by
    show (jnk h n).1 + 1 = _
    rw [jnk_1 h n]
    omega
theorem jnk_lt (h : MH) {a : Nat} (ha : a < h.1) : ∀ n, (jnk h n).2 a = h.2 a
  | 0 => rfl
  | n + 1 => by
    show (if a = (jnk h n).1 then _ else (jnk h n).2 a) = _
    rw [if_neg (by rw [jnk_1]; omega), jnk_lt h ha n]
theorem jnk_ge (h : MH) {a : Nat} (ha : h.1 ≤ a) : ∀ n, a < h.1 + n → (jnk h n).2 a = (99, 0, fun _ => 0)
  | 0, z => by omega
  | n + 1, z => by
    show (if a = (jnk h n).1 then _ else (jnk h n).2 a) = _
    by_cases e : a = (jnk h n).1
    · rw [if_pos e]
    · rw [if_neg e, jnk_ge h ha n (by rw [jnk_1] at e; omega)]
theorem mft_83 (j : Nat) : mft 83 j = 0 := rfl
theorem mRep.jnk {D : va_G} {x : Nat → Nat} {s0 : Nat} {s t : State} {H H' : Heap} {h : MH} (P : mRep D x s0 s H h) (hvm : s.vm.Alike t.vm) (hz : H.size ≤ H'.size) (ho : ∀ q : Nat, q < H.size → H'[q]? = H[q]?) : mRep D x s0 t H' (jnk h (H'.size - H.size)) := by
  have e1 := P.1
  have e2 := P.2.1
  have P' := P.moved hvm
  refine ⟨by rw [jnk_1]; omega, by rw [jnk_1]; omega, P'.2.2.1, fun a ha => ?_, fun k hk => ?_, fun a h4 ha => ?_⟩
  · rw [jnk_1] at ha
    by_cases q : a < h.1
    · rw [jnk_lt h q]
      exact P.2.2.2.1 a q
    · rw [jnk_ge h (by omega) _ ha]
      unfold mokC
      rw [if_neg (by decide)]
      intro j
      show mok (mft 83 j, 0)
      rw [mft_83]
      exact ⟨by decide, by decide⟩
  · rw [jnk_lt h (by omega)]
    exact (P'.2.2.2.2.1 k hk).kept fun q h1 _ => ho q h1
  · rw [jnk_1] at ha
    by_cases q : a < h.1
    · rw [jnk_lt h q]
      exact (P'.2.2.2.2.2 a h4 q).kept (ho _ (by rw [mad_ge h4]; omega))
    · rw [jnk_ge h (by omega) _ ha]
      unfold mAt
      rw [if_neg (by decide)]
      exact Or.inl rfl
/-- the classes above those that are thrown -/
def mXN (n : Nat) : List String := match n with
  | 1 => ["java/lang/IndexOutOfBoundsException", "java/lang/RuntimeException", "java/lang/Exception"]
  | _ => ["java/lang/RuntimeException", "java/lang/Exception"]
/-- words of a throw that don't stay in lists of words -/
def mXB (n : Nat) : List Cond := Cond.castable (mxE n) (mxE n) :: (mXN n ++ [Bundle.tN]).map fun Y => Cond.declares (Bundle.init0 Y)
theorem dcl_of {args : Array Value} {s : State} {Y : String} {b : ByteArray} (h1 : (Cond.instanceMethod (Bundle.init0 Y)).before args s = true) (h2 : (Cond.code (Bundle.init0 Y) b 1 none).before args s = true) : (Cond.declares (Bundle.init0 Y)).before args s = true := by
  obtain ⟨mk, meth, hn, hm, hst, -⟩ := Cond.instanceMethod_spec h1
  obtain ⟨meth', c, hm', -, -, -, -, -, -, hsig⟩ := Cond.code_spec hn h2
  cases hm.symm.trans hm'
  show (Cond.declares (Bundle.init0 Y)).holds args s none s [] = true
  simp [Cond.holds, Cond.value, hn, hm, hst, hsig]
theorem cst_of {args : Array Value} {s : State} {X : String} (h : (Cond.initialized X).before args s = true) (h2 : ∃ c, s.vm.findClass X = some c) : (Cond.castable X X).before args s = true := by
  obtain ⟨c, hc⟩ := h2
  show (Cond.castable X X).holds args s none s [] = true
  simp [Cond.holds, Cond.value, hc, m_asgSelf]
section TH
variable {K K' : mK} {Qr Qr' : MO → MH → Prop} {mc ms mc' ms' pc idx : Nat} {L : List (Nat × MV)} {ST S As : List MV} {h : MH} {y : MethodName}
/-- the words of a throw of class n, in the class of K -/
def mTw (K : mK) (ik ic n : Nat) : List Cond := Cond.classLink K.2.1 ik (mxE n) :: Cond.initialized (mxE n) :: vx_at0 K.2.1 ic (mxE n) (mXN n)
def mTh (K : mK) (ik ic n : Nat) : Prop := (∀ w ∈ (mTw K ik ic n).filter goodWord, w ∈ mTB) ∧ ((mTw K ik ic n).filter (fun w => !goodWord w)).all (fun w => decide (w ∈ mXB n)) = true ∧ (mTw K ik ic n).all vx_ot = true ∧ ((∀ Y ∈ mXN n ++ [Bundle.tN], ∃ b, Cond.instanceMethod (Bundle.init0 Y) ∈ mTB ∧ Cond.code (Bundle.init0 Y) b 1 none ∈ mTB) ∧ Cond.initialized (mxE n) ∈ mTB ∧ Cond.instantiable (mxE n) 6 ∈ mTB) ∧ Bundle.fit (mxE n) = true ∧ (mXN n).all Bundle.fit = true
theorem m_throw (hk : K.1 = 2) (n : Nat) {ik ic : Nat} (w : mTh K ik ic n) (d0 : decode K.2.2.1 pc = .ok (.new ik, 3)) (d3 : decode K.2.2.1 (pc + 3) = .ok (.dup, 1)) (d4 : decode K.2.2.1 (pc + 4) = .ok (.invokespecial ic, 3)) (d7 : decode K.2.2.1 (pc + 7) = .ok (.athrow, 1))
    (hfr : 6 < K.2.2.2.2.2.1) (hlo : 110 ≤ K.2.2.2.2.2.2) (hwd : (S.map mcat).sum ≤ 8) (hmc : 1 ≤ mc) (hms : 6 ≤ ms) (hq : ∀ j, Qr (2, (0, (n : Int))) (jnk h j)) : MW K Qr mc ms pc L S h := by
  intro D a s0 p l e R s m args below meth c H locs cells slots MC MS Q ls cx F P SS hl oL oS hc' hs
  have hts := cx.2.2.2.2.2.1
  obtain ⟨w1, w2, w3, ⟨w4, w5, w6⟩, w7, w8⟩ := w
  have hlen : (mXN n).length ≤ 3 := by
    unfold mXN
    split <;> decide
  rcases F with ⟨z, -⟩ | ⟨z, -⟩ | ⟨-, hst, htab, z1, z2, rfl⟩
  · omega
  · omega
  · have hfc : ∃ c, s.vm.findClass (mxE n) = some c := by
      obtain ⟨c9, k9, q1, -⟩ := Cond.instantiable_spec (hts _ w6)
      exact ⟨c9, q1⟩
    have hB : ∀ v ∈ mXB n, v.before args s = true := by
      intro v hv
      rcases List.mem_cons.mp hv with rfl | hv
      · exact cst_of (hts _ w5) hfc
      · obtain ⟨Y, hY, rfl⟩ := List.mem_map.mp hv
        obtain ⟨b, b1, b2⟩ := w4 Y hY
        exact dcl_of (hts _ b1) (hts _ b2)
    have hall : ∀ v ∈ mTw K ik ic n, v.before args s = true := vx_hat (fun v hv => hts v (w1 v hv)) (fun v hv => of_decide_eq_true (List.all_eq_true.mp w2 v hv)) hB
    refine vx_throw0 cx.1 cx.2.1 hst (own := K.2.1) (cls := mxE n) (names := mXN n) (ik := ik) (ic := ic) (A := fun q => s0 ≤ q) cx.2.2.2.2.1 w7 (fun Y hY => List.all_eq_true.mp w8 Y hY) (hall _ List.mem_cons_self) (hall _ (List.mem_cons_of_mem _ List.mem_cons_self)) (fun v hv => hall v (List.mem_cons_of_mem _ (List.mem_cons_of_mem _ hv))) (fun v hv => List.all_eq_true.mp w3 v hv) z1 z2 SS (hl.1.trans cx.2.2.1.symm) d0 d3 d4 d7 (fun q hq => (htab q hq).elim) ?_ ?_ ?_ ?_ cx.2.2.2.2.2.2.1 ?_ SS.2.2 ?_ ?_
    · have := cx.2.2.2.2.2.2.2.1
      omega
    · have := cx.2.2.2.2.2.2.2.2.1
      rw [mS_cat]
      omega
    · have := cx.2.2.2.2.2.2.2.2.2.1
      omega
    · have := cx.2.2.2.2.2.2.2.2.2.2.1
      omega
    · intro t hvm hz ho
      have S2 := SS.grow hz ho
      exact ⟨n, jnk h (t.heap.size - H.size), hq _, rfl, P.jnk hvm hz ho, S2.F rfl⟩
    · omega
    · omega
/-- where a method that throws begins -/
def mPcX (D : va_G) (x : Nat → Nat) (s0 : Nat) (As : List MV) (h : MH) : Array Value → State → Prop := fun v U => mPc D x s0 As h v U ∧ vx_Zq Bundle.tN "UNASSIGNED_STACK" Bundle.steD (fun q => s0 ≤ q) U U.heap ∧ vx_Zq Bundle.tN "SUPPRESSED_SENTINEL" Bundle.listD (fun q => s0 ≤ q) U U.heap
theorem mPcX_blind {D : va_G} {x : Nat → Nat} {s0 : Nat} : FrameBlind (mPcX D x s0 As h) := fun _ U g mk q =>
  ⟨mPc_blind _ U g mk q.1, vx_Zq.moved (u := U) (Vm.Alike.refl U.vm) q.2.1, vx_Zq.moved (u := U) (Vm.Alike.refl U.vm) q.2.2⟩
/-- method y, called with these values on this heap, throws or comes back, as Qr says -/
def MCalX (K : mK) (y : MethodName) (mc ms : Nat) (As : List MV) (h : MH) (Qr : MO → MH → Prop) : Prop := ∀ (D : va_G) (x : Nat → Nat) (s0 : Nat) (l : Launch), l.stackTraces = false → mokS As →
  vx_Met l y (.code y K.2.2.1 K.2.2.2.1 K.2.2.2.2.1 :: mTB) { frames := K.2.2.2.2.2.1, cells := mc, slots := ms, locals := K.2.2.2.2.2.2 } (mPcX D x s0 As h) (mQc D x s0 Qr) (mXc D x s0 Qr) mc ms (fun q => s0 ≤ q)
theorem MCalX.ofMW (hk : K.1 = 2) (hy : plainName y.cls = true ∧ y.cls = K.2.1) (hn : mwid As ≤ K.2.2.2.1) (k : MW K Qr mc ms 0 (margs 0 As) [] h) : MCalX K y mc ms As h Qr := by
  intro D x s0 l hst oA
  refine vx_ofW (cc := K.2.2.1) (maxL := K.2.2.2.1) (ret := K.2.2.2.2.1) hy.1 rfl ?_
  intro p e s m args below meth c s₁ B hml htab hv
  obtain ⟨⟨rfl, P, hN⟩, z1, z2⟩ := hv
  have hts := atoms_spec B.pre
  have hl := lv_entry (As.map (mval (mad x s0))) (n := K.2.2.2.1) (by rw [mwid_len]; exact hn)
  rw [lg_entry_eq]
  rw [margs_map] at hl
  refine k D x s0 p l e _ s m _ below meth c s.heap [] 0 0 mc ms _ _ ⟨B.exec, B.bytes, hml, B.returns, ?_, fun w hw => hts w (List.mem_cons_of_mem _ hw), B.notSynchronized, Nat.le_refl _, Nat.le_refl _, Nat.le_refl _, Nat.le_refl _, ?_, fun q => by omega, hN⟩ (Or.inr (Or.inr ⟨hk, hst, htab, z1, z2, rfl⟩)) P va_S.rf hl (margs_ok oA 0) (fun v hv => by cases hv) (by omega) (by omega)
  · rw [← hy.2]; exact findClass_of_methodNamed B.named
  · have e1 := P.1
    have e2 := P.2.1
    show s0 ≤ s.heap.size
    omega
/-- a call of what throws, out of what throws: it goes on to the caller -/
theorem m_invokevirtualX (hk : K.1 = 2) (hd : decode K.2.2.1 pc = .ok (.invokevirtual idx, 3)) (hcw : mCW K' y) {ci : Nat} {C : String} {T : u_T} {N : Nat} {r : Int} (hc : mcl[ci]? = some (C, T, N)) (h0 : 0 ≤ r) (hr : r.toNat < h.1) (hkd : (h.2 r.toNat).1 = 16 + ci) (hw : Cond.methodLink K.2.1 idx y ∈ mTB ∧ Cond.instanceMethod y ∈ mTB ∧ Cond.selects y.cls y y ∈ mTB) (hy : (y.cls = C ∧ y.cls ≠ "java/lang/invoke/MethodHandle" ∧ y.cls ≠ "java/lang/invoke/VarHandle" ∧ (parseMethodDescriptor y.desc).map (fun d => d.parameters.length) = some As.length)) (hfit : mFit K K') (hwd : (S.map mcat).sum ≤ 8) (hst : ST = As.reverse ++ (2, r) :: S) (hmc : mc' ≤ mc) (hms : ms' ≤ ms) (hM : MCalX K' y mc' ms' ((2, r) :: As) h Qr')
    (kk : ∀ (o : MO) (h' : MH), Qr' o h' → o.1 = 2 ∧ Qr o h') : MW K Qr mc ms pc L ST h := by
  subst hst
  intro D a s0 p l e R s m args below meth c H locs cells slots MC MS Q ls cx F P SS hl oL oS hc' hs
  have oA : mokS ((2, r) :: As) := mokS_cons.mpr ⟨trivial, fun v hv => (mokS_app oS).1 v (List.mem_reverse.mpr hv)⟩
  have hts := cx.2.2.2.2.2.1
  have hX : CallFix p m c K.2.2.1 K.2.2.2.1 s args mTB K.2.1 := ⟨cx.1, cx.2.1, cx.2.2.1, cx.2.2.2.2.1, hts⟩
  have hf : cells + mc' ≤ R.cells ∧ slots + ms' ≤ R.slots := ⟨by have := cx.2.2.2.2.2.2.2.2.2.1; omega, by have := cx.2.2.2.2.2.2.2.2.2.2.1; omega⟩
  have hR : K'.2.2.2.2.2.1 + 1 ≤ R.frames ∧ 8 + (K'.2.2.2.1 + 11) + K'.2.2.2.2.2.2 ≤ R.locals := ⟨by have := cx.2.2.2.2.2.2.2.1; have := hfit.1; omega, by have := cx.2.2.2.2.2.2.2.2.1; have := hfit.2; omega⟩
  have hwd' : 2 * (F0 m pc ls (mS (mad a s0) (As.reverse ++ (2, r) :: S))).monitorRoom + ((mS (mad a s0) S).map fun v => v.category).sum ≤ 8 := by
    rw [mS_cat]
    show 2 * 0 + _ ≤ 8
    omega
  have hsk : mS (mad a s0) (As.reverse ++ (2, r) :: S) = (As.map (mval (mad a s0))).reverse ++ Value.ref (mad a s0 r.toNat) :: mS (mad a s0) S := by
    rw [mS_append]
    show List.map _ As.reverse ++ mval (mad a s0) (2, r) :: mS (mad a s0) S = _
    rw [mval_refP _ h0, List.map_reverse]
  have hav : (Value.ref (mad a s0 r.toNat) :: As.map (mval (mad a s0))).toArray = (((2, r) :: As).map (mval (mad a s0))).toArray := by
    rw [List.map_cons, mval_refP _ h0]
  have hrec : ∃ cellB : Cell, H[mad a s0 r.toNat]? = some cellB ∧ cellB.vm.isStatics = false ∧ s.vm.findClass C = some cellB.cls := va_recv P.2.2.1 (P.obj hr hkd hc) hc (q0 := 0) rfl
  have hn : (As.map (mval (mad a s0))).length = As.length := List.length_map _
  rcases F with ⟨z, -⟩ | ⟨z, -⟩ | ⟨-, hst, htab, z1, z2, rfl⟩
  · omega
  · omega
  · have hM2 := hM D a s0 l hst oA
    have run := vx_runV (e := e) (below := below) (meth := meth) (locs := locs) (As := As.map (mval (mad a s0))) (rest := mS (mad a s0) S) hX hM2 (cwV As.length hts (mTB_wsV hw.1 hw.2.1 (hy.1 ▸ hw.2.2) (hy.1 ▸ hcw.2) hcw.1) rfl rfl rfl hy hR) ⟨mPcX_blind, hrec, fun U hU hW => ⟨⟨hav, by rw [hU]; exact P.moved hW.alike, mNs.warm hW cx.2.2.2.2.2.2.2.2.2.2.2.2.2⟩, by rw [hU]; exact (z1.kept fun q q1 q2 => SS.2.1 q q1 q2).moved hW.alike, by rw [hU]; exact (z2.kept fun q q1 q2 => SS.2.1 q q1 q2).moved hW.alike⟩⟩ (g := F0 m pc ls (mS (mad a s0) (As.reverse ++ (2, r) :: S))) rfl hn hl.1 hsk hwd' hd hf
    intro T hT X
    rcases run T hT X with ⟨v, st₀, t, T', L', h0', X', hL, e1, e2, hq, st'⟩ | ⟨q, st₀, t, T', L', E, ce, h0', X', hL, e1, e2, hxc, hce, hcv, hcl, st'⟩
    · obtain ⟨o, h', hr', ov, ho, -⟩ := hq
      have := (kk o h' hr').1
      rcases ho with ⟨z, -⟩ | ⟨z, -⟩ <;> omega
    · obtain ⟨n, h', hr', rfl, P', hz, hkp⟩ := hxc
      rw [h0'] at hz hkp
      have hvm : t.vm.Alike s.vm := by rw [← e2]; exact (X'.warmed.alike).symm
      have SS' : va_S (fun q => s0 ≤ q) s.heap t.heap (locs ++ L') := by
        refine ⟨Nat.le_trans SS.1 hz, fun q h1 h2 => ?_, fun q hq => ?_⟩
        · rw [hkp q (Nat.lt_of_lt_of_le h1 SS.1) h2]
          exact SS.2.1 q h1 h2
        · rcases List.mem_append.mp hq with z | z
          · exact SS.2.2 q z
          · exact hL q z
      obtain ⟨t2, a1, b1⟩ := vx_out (Qc := mQc D a s0 Qr) (XC := mXc D a s0 Qr) (E := mxE n) (ce := ce) (q := q) (mc := MC) (ms := MS) (free := fun q => s0 ≤ q) (rest := mS (mad a s0) S) (ls := ls) (pc := pc) (H := t.heap) (locs := locs ++ L') (cells := cells + mc') (slots := slots + ms') (fun z hz => (htab z hz).elim) cx.2.2.2.2.2.2.1 hce hcv hcl (fun u hu hvu => ⟨n, h', (kk _ h' hr').2, rfl, by rw [hu]; exact (P'.moved hvm).moved hvu, SS'.F hu⟩) SS'.2.2 (by omega) (by omega) T' e1 X'
      exact ⟨t2, st'.trans a1, b1⟩
end TH
/-- the same method, as one that throws, with so much room below it -/
def kTx (K : mK) (F Lo : Nat) : mK := (2, K.2.1, K.2.2.1, K.2.2.2.1, K.2.2.2.2.1, F, Lo)
section HX
variable {K : mK} {P : MP} {o i pc a : Nat} {zz : Int} {bb cc mc ms mc' ms' : Nat} {L : List (Nat × MV)} {S : List MV} {h : MH} {Q : MO → MH → Prop}
theorem hd_callXt (ok : okP K o P = true) (hk : K.1 = 2) (hi : P.1[i]? = some (pc, 67, zz, a, bb, cc)) {q : MR} (hq : mtab[a]? = some q) (hv : q.2.2.2.2 = 0) {F Lo : Nat} (hf : fitB K (kTx q.1 F Lo) = true) {As rest : List MV} {c : Nat} (hS : S = As.reverse ++ (2, (c : Int)) :: rest) (hn : q.2.2.2.1 = As.length) (hw : (rest.map mcat).sum ≤ 8) (hc : c < h.1) (hk2 : (h.2 c).1 = 16 + q.2.2.1) {Q' : MO → MH → Prop} (hmc : mc' ≤ mc) (hms : ms' ≤ ms) (hM : MCalX (kTx q.1 F Lo) q.2.1 mc' ms' ((2, (c : Int)) :: As) h Q')
    (kk : ∀ (r : MO) (h' : MH), Q' r h' → r.1 = 2 ∧ Q r h') : MW K Q mc ms (pcA P i) L S h := by
  have ok := okP_at ok hi
  have hp : pcA P i = pc := by
    unfold pcA
    rw [hi]
  obtain ⟨f1, f2⟩ := fitB_of hf
  have mf := mtab_ok q (List.mem_of_getElem? hq)
  obtain ⟨g1, g2, g3, g4, g5, g6⟩ := mf
  rw [hp]
  have o1 := and2 ok.1
  have d := okD_of o1.1
  obtain ⟨r', hr', hl⟩ := MT_ok o (zz.toNat, a) (List.contains_iff_mem.mp o1.2)
  have hr' : mtab[a]? = some r' := hr'
  rw [hq] at hr'
  cases hr'
  rw [← ok.2] at hl
  obtain ⟨s1, s2, T', N', s3⟩ := g6 hv
  have g1 : mCW (kTx q.1 F Lo) q.2.1 := g1
  exact m_invokevirtualX (K' := kTx q.1 F Lo) hk d.1 g1 s3 (r := (c : Int)) (Int.natCast_nonneg c) hc hk2 ⟨hl, s1, s2⟩ ⟨rfl, g4.1, g4.2.1, by rw [← hn]; exact g4.2.2⟩ f1 hw hS hmc hms hM kk
end HX
