/-! rules: a method's entry, its ends, its calls -/
section MM
variable {D : va_G} {x : Nat → Nat} {s0 : Nat} {s t : State} {H : Heap} {h : MH}
theorem mAt.moved {ad : Nat → Nat} {q : Nat} {c : MC} (hvm : s.vm.Alike t.vm) (h : mAt D ad s H q c) : mAt D ad t H q c := by
  unfold mAt at h ⊢
  split
  · next hk =>
    rw [if_pos hk] at h
    obtain ⟨cA, h1, h2, h3⟩ := h
    exact ⟨cA, h1, arrOfT_moved hvm h2, h3.moved hvm⟩
  · next hk =>
    rw [if_neg hk] at h
    exact h
theorem mEx.moved {k : Nat} {c : MC} (hvm : s.vm.Alike t.vm) (h : mEx x s0 s H k c) : mEx x s0 t H k c := by
  obtain ⟨h1, h2, ⟨cell, h3, h4, h5⟩, h6⟩ := h
  exact ⟨h1, h2, ⟨cell, h3, State.isArrayOf_alike hvm h4, h5⟩, h6.imp id fun z => z.moved hvm⟩
theorem mRep.moved (hvm : s.vm.Alike t.vm) (P : mRep D x s0 s H h) : mRep D x s0 t H h :=
  ⟨P.1, P.2.1, P.2.2.1.moved hvm, P.2.2.2.1, fun k hk => (P.2.2.2.2.1 k hk).moved hvm, fun a h4 ha => (P.2.2.2.2.2 a h4 ha).moved hvm⟩
end MM
def margs : Nat → List MV → List (Nat × MV)
  | _, [] => []
  | i, v :: vs => (i, v) :: margs (if mcat v = 2 then i + 2 else i + 1) vs
theorem margs_map (ad : Nat → Nat) (As : List MV) (i : Nat) : lv_args i (As.map (mval ad)) = mL ad (margs i As) := by
  induction As generalizing i with
  | nil => rfl
  | cons v As ih =>
    show (i, mval ad v) :: lv_args (if (mval ad v).category = 2 then i + 2 else i + 1) (As.map (mval ad)) = (i, mval ad v) :: mL ad (margs (if mcat v = 2 then i + 2 else i + 1) As)
    rw [mval_cat, ih]
theorem margs_ok {As : List MV} (h : mokS As) (i : Nat) : mokL (margs i As) := by
  induction As generalizing i with
  | nil => exact fun q hq => by cases hq
  | cons v As ih => exact mokL_cons.mpr ⟨(mokS_cons.mp h).1, ih (mokS_cons.mp h).2 _⟩
def mwid (As : List MV) : Nat := (As.map mcat).sum
theorem mwid_len (ad : Nat → Nat) (As : List MV) : (lg_sl (As.map (mval ad))).length = mwid As := by
  induction As with
  | nil => rfl
  | cons v As ih =>
    unfold lg_sl at ih ⊢
    rw [List.map_cons, List.flatMap_cons, List.length_append, ih, mval_cat]
    unfold mwid
    rw [List.map_cons, List.sum_cons]
    have : mcat v = 1 ∨ mcat v = 2 := by unfold mcat; split <;> simp
    rcases this with e | e <;> rw [e] <;> rfl
def mPc (D : va_G) (x : Nat → Nat) (s0 : Nat) (As : List MV) (h : MH) : Array Value → State → Prop := fun v U => v = (As.map (mval (mad x s0))).toArray ∧ mRep D x s0 U U.heap h ∧ mNs U
/-- method y, called with these values on this heap, comes back as Qr says -/
def MCal (K : mK) (y : MethodName) (mc ms : Nat) (As : List MV) (h : MH) (Qr : MO → MH → Prop) : Prop := ∀ (D : va_G) (x : Nat → Nat) (s0 : Nat) (l : Launch), mokS As →
  if K.1 = 1 then MetD lw_cs l y (.code y K.2.2.1 K.2.2.2.1 K.2.2.2.2.1 :: mTB) { frames := K.2.2.2.2.2.1, cells := mc, slots := ms, locals := K.2.2.2.2.2.2 } (mPc D x s0 As h) (mQc D x s0 Qr) mc ms (fun q => s0 ≤ q)
  else Met l y (.code y K.2.2.1 K.2.2.2.1 K.2.2.2.2.1 :: mTB) { frames := K.2.2.2.2.2.1, cells := mc, slots := ms, locals := K.2.2.2.2.2.2 } (mPc D x s0 As h) (mQc D x s0 Qr) mc ms (fun q => s0 ≤ q)
theorem MCal.ofMW {K : mK} {y : MethodName} {mc ms : Nat} {As : List MV} {h : MH} {Qr : MO → MH → Prop} (hk : K.1 = 0 ∨ K.1 = 1 ∨ (K.1 = 3 ∧ y.name = "<init>")) (hy : plainName y.cls = true ∧ y.cls = K.2.1) (hn : mwid As ≤ K.2.2.2.1) (k : MW K Qr mc ms 0 (margs 0 As) [] h) (hfr : K.1 = 1 → K.2.2.2.2.2.1 < 1000 := by decide) : MCal K y mc ms As h Qr := by
  intro D x s0 l oA
  split
  · next h1 =>
    refine MetD.ofW (cc := K.2.2.1) (maxL := K.2.2.2.1) (ret := K.2.2.2.2.1) hy.1 rfl ?_
    intro p e s m args below meth c s₁ B hml hv hd0
    obtain ⟨rfl, P, hN⟩ := hv
    have hts := atoms_spec B.pre
    have hl := lv_entry (As.map (mval (mad x s0))) (n := K.2.2.2.1) (by rw [mwid_len]; exact hn)
    rw [lg_entry_eq]
    rw [margs_map] at hl
    refine k D x s0 p l e _ (s.setDrawn s.drawn) m _ below meth c s.heap [] 0 0 mc ms _ _ ⟨B.exec, B.bytes, hml, B.returns, ?_, fun w hw => hts w (List.mem_cons_of_mem _ hw), B.notSynchronized, Nat.le_refl _, Nat.le_refl _, Nat.le_refl _, Nat.le_refl _, ?_, fun q => by omega, mNs.drawn _ hN⟩ (Or.inr (Or.inl ⟨h1, fun z => absurd (hfr h1) (by omega), s, s.drawn, rfl, hd0, rfl⟩)) P va_S.rf hl (margs_ok oA 0) (fun v hv => by cases hv) (by omega) (by omega)
    · rw [← hy.2]; exact findClass_of_methodNamed B.named
    · have e1 := P.1
      have e2 := P.2.1
      show s0 ≤ s.heap.size
      omega
  · next h1 =>
    refine Met.ofW (cc := K.2.2.1) (maxL := K.2.2.2.1) (ret := K.2.2.2.2.1) hy.1 rfl ?_
    intro p e s m args below meth c s₁ B hml hv
    obtain ⟨rfl, P, hN⟩ := hv
    have hts := atoms_spec B.pre
    have hl := lv_entry (As.map (mval (mad x s0))) (n := K.2.2.2.1) (by rw [mwid_len]; exact hn)
    rw [lg_entry_eq]
    rw [margs_map] at hl
    refine k D x s0 p l e _ s m _ below meth c s.heap [] 0 0 mc ms _ _ ⟨B.exec, B.bytes, hml, B.returns, ?_, fun w hw => hts w (List.mem_cons_of_mem _ hw), B.notSynchronized, Nat.le_refl _, Nat.le_refl _, Nat.le_refl _, Nat.le_refl _, ?_, fun q => ?_, hN⟩ (Or.inl ⟨by omega, rfl⟩) P va_S.rf hl (margs_ok oA 0) (fun v hv => by cases hv) (by omega) (by omega)
    · rw [← hy.2]; exact findClass_of_methodNamed B.named
    · have e1 := P.1
      have e2 := P.2.1
      show s0 ≤ s.heap.size
      omega
    · rw [(name_of_methodNamed B.named B.method).1]
      rcases hk with z | z | z
      · omega
      · omega
      · exact z.2
section ME
variable {K : mK} {Qr : MO → MH → Prop} {mc ms pc : Nat} {L : List (Nat × MV)} {S S' : List MV} {h : MH}
theorem m_ireturn (hd : decode K.2.2.1 pc = .ok (.ireturn, 1)) {ty : FieldType} {v : Int} (hr : K.2.2.2.2.1 = some ty) (hn : narrow ty (.int (Int32.ofInt v)) = .int (Int32.ofInt v)) (hq : Qr (1, (0, v)) h) : MW K Qr mc ms pc L [(0, v)] h := by
  intro D a s0 p l e R s m args below meth c H locs cells slots MC MS Q ls cx F P SS hl oL oS hc' hs
  refine W.widen (k := MC) (n := MS) (by omega) (by omega) ?_
  have hq' : ∀ t : State, t.heap = H → s.WarmedH t.vm → mQc D a s0 Qr args s (.returned (some (.int (Int32.ofInt v)))) t := fun t ht hW => ⟨(1, (0, v)), h, hq, (mokS_cons.mp oS).1, Or.inr ⟨rfl, rfl⟩, by rw [ht]; exact P.moved hW.alike, SS.F ht⟩
  rcases F with ⟨-, rfl⟩ | ⟨-, -, s1, d0, rfl, hd0, rfl⟩ | ⟨-, -, -, -, -, rfl⟩
  · exact W.zret cx.1 cx.2.1 (cx.2.2.2.1.trans hr) hn hq' SS.2.2 hd cx.2.2.2.2.2.2.1
  · refine W.endD hd0 ?_
    exact W.zret cx.1 cx.2.1 (cx.2.2.2.1.trans hr) hn hq' SS.2.2 hd cx.2.2.2.2.2.2.1
  · exact vx_ret (W.zret cx.1 cx.2.1 (cx.2.2.2.1.trans hr) hn hq' SS.2.2 hd cx.2.2.2.2.2.2.1)
theorem m_lreturn (hd : decode K.2.2.1 pc = .ok (.lreturn, 1)) {v : Int} (hr : K.2.2.2.2.1 = some .long) (hq : Qr (1, (1, v)) h) : MW K Qr mc ms pc L [(1, v)] h := by
  intro D a s0 p l e R s m args below meth c H locs cells slots MC MS Q ls cx F P SS hl oL oS hc' hs
  refine W.widen (k := MC) (n := MS) (by omega) (by omega) ?_
  have hq' : ∀ t : State, t.heap = H → s.WarmedH t.vm → mQc D a s0 Qr args s (.returned (some (.long (Int64.ofInt v)))) t := fun t ht hW => ⟨(1, (1, v)), h, hq, (mokS_cons.mp oS).1, Or.inr ⟨rfl, rfl⟩, by rw [ht]; exact P.moved hW.alike, SS.F ht⟩
  rcases F with ⟨-, rfl⟩ | ⟨-, -, s1, d0, rfl, hd0, rfl⟩ | ⟨-, -, -, -, -, rfl⟩
  · exact W.lret cx.1 cx.2.1 (cx.2.2.2.1.trans hr) hq' SS.2.2 hd cx.2.2.2.2.2.2.1
  · refine W.endD hd0 ?_
    exact W.lret cx.1 cx.2.1 (cx.2.2.2.1.trans hr) hq' SS.2.2 hd cx.2.2.2.2.2.2.1
  · exact vx_ret (W.lret cx.1 cx.2.1 (cx.2.2.2.1.trans hr) hq' SS.2.2 hd cx.2.2.2.2.2.2.1)
theorem m_dreturn (hd : decode K.2.2.1 pc = .ok (.dreturn, 1)) {v : Int} (hr : K.2.2.2.2.1 = some .double) (hq : Qr (1, (3, v)) h) : MW K Qr mc ms pc L [(3, v)] h := by
  intro D a s0 p l e R s m args below meth c H locs cells slots MC MS Q ls cx F P SS hl oL oS hc' hs
  refine W.widen (k := MC) (n := MS) (by omega) (by omega) ?_
  have hq' : ∀ t : State, t.heap = H → s.WarmedH t.vm → mQc D a s0 Qr args s (.returned (some (.double (UInt64.ofNat v.toNat)))) t := fun t ht hW => ⟨(1, (3, v)), h, hq, (mokS_cons.mp oS).1, Or.inr ⟨rfl, rfl⟩, by rw [ht]; exact P.moved hW.alike, SS.F ht⟩
  rcases F with ⟨-, rfl⟩ | ⟨-, -, s1, d0, rfl, hd0, rfl⟩ | ⟨-, -, -, -, -, rfl⟩
  · exact W.dret cx.1 cx.2.1 (cx.2.2.2.1.trans hr) hq' SS.2.2 hd cx.2.2.2.2.2.2.1
  · refine W.endD hd0 ?_
    exact W.dret cx.1 cx.2.1 (cx.2.2.2.1.trans hr) hq' SS.2.2 hd cx.2.2.2.2.2.2.1
  · exact vx_ret (W.dret cx.1 cx.2.1 (cx.2.2.2.1.trans hr) hq' SS.2.2 hd cx.2.2.2.2.2.2.1)
theorem m_return (hd : decode K.2.2.1 pc = .ok (.return_, 1)) (hr : K.2.2.2.2.1 = none) (hq : Qr (0, (0, 0)) h) : MW K Qr mc ms pc L [] h := by
  intro D a s0 p l e R s m args below meth c H locs cells slots MC MS Q ls cx F P SS hl oL oS hc' hs
  refine W.widen (k := MC) (n := MS) (by omega) (by omega) ?_
  have hq' : ∀ t : State, t.heap = H → s.WarmedH t.vm → mQc D a s0 Qr args s (.returned (none)) t := fun t ht hW => ⟨(0, (0, 0)), h, hq, mI_zr, Or.inl ⟨rfl, rfl⟩, by rw [ht]; exact P.moved hW.alike, SS.F ht⟩
  rcases F with ⟨-, rfl⟩ | ⟨-, -, s1, d0, rfl, hd0, rfl⟩ | ⟨-, -, -, -, -, rfl⟩
  · exact W.vret cx.1 cx.2.1 (cx.2.2.2.1.trans hr) hq' SS.2.2 hd cx.2.2.2.2.2.2.1
  · refine W.endD hd0 ?_
    exact W.vret cx.1 cx.2.1 (cx.2.2.2.1.trans hr) hq' SS.2.2 hd cx.2.2.2.2.2.2.1
  · exact vx_ret (W.vret cx.1 cx.2.1 (cx.2.2.2.1.trans hr) hq' SS.2.2 hd cx.2.2.2.2.2.2.1)
theorem m_areturn (hd : decode K.2.2.1 pc = .ok (.areturn, 1)) {rt : FieldType} {v : Int} (hr : K.2.2.2.2.1 = some rt) (hrt : (∃ n, rt = .object n) ∨ ∃ t, rt = .array t) (hq : Qr (1, (2, v)) h) : MW K Qr mc ms pc L [(2, v)] h := by
  intro D a s0 p l e R s m args below meth c H locs cells slots MC MS Q ls cx F P SS hl oL oS hc' hs
  refine W.widen (k := MC) (n := MS) (by omega) (by omega) ?_
  have hq' : ∀ t : State, t.heap = H → s.WarmedH t.vm → mQc D a s0 Qr args s (.returned (some (mval (mad a s0) (2, v)))) t := fun t ht hW => ⟨(1, (2, v)), h, hq, trivial, Or.inr ⟨rfl, rfl⟩, by rw [ht]; exact P.moved hW.alike, SS.F ht⟩
  have hv : mval (mad a s0) (2, v) = .null ∨ ∃ b, mval (mad a s0) (2, v) = .ref b := by
    rw [mval_ref]
    cases mref (mad a s0) v with
    | none => exact Or.inl rfl
    | some b => exact Or.inr ⟨b, rfl⟩
  rcases F with ⟨-, rfl⟩ | ⟨-, -, s1, d0, rfl, hd0, rfl⟩ | ⟨-, -, -, -, -, rfl⟩
  · exact W.aret cx.1 cx.2.1 (cx.2.2.2.1.trans hr) hrt hv hq' SS.2.2 hd cx.2.2.2.2.2.2.1
  · refine W.endD hd0 ?_
    exact W.aret cx.1 cx.2.1 (cx.2.2.2.1.trans hr) hrt hv hq' SS.2.2 hd cx.2.2.2.2.2.2.1
  · exact vx_ret (W.aret cx.1 cx.2.1 (cx.2.2.2.1.trans hr) hrt hv hq' SS.2.2 hd cx.2.2.2.2.2.2.1)
/-- what a run of a call gives -/
def mRun (K : mK) (D : va_G) (a : Nat → Nat) (s0 : Nat) (Qr' : MO → MH → Prop) (mc' ms' : Nat) (p : Program) (l : Launch) (e : Env) (R : Room) (s : State) (m : MethodId) (args : Array Value) (below : List Frame) (meth : Method) (c : Code) (H : Heap) (locs : List Loc) (cells slots : Nat) (g : JFrame) (rest : List Value) (A : Array Value) : Prop :=
  va_RunD lw_cs p l e R s m args below meth c H locs cells slots mc' ms' g rest (mQc D a s0 Qr' A) (fun q => s0 ≤ q)
theorem va_Run.toD {p : Program} {l : Launch} {e : Env} {R : Room} {s : State} {m : MethodId} {args : Array Value} {below : List Frame} {meth : Method} {c : Code} {H : Heap} {locs : List Loc} {cells slots mc ms : Nat} {g : JFrame} {rest : List Value} {Qa : State → Outcome → State → Prop} {free : Addr → Prop} (h : va_Run p l e R s m args below meth c H locs cells slots mc ms g rest Qa free) : va_RunD lw_cs p l e R s m args below meth c H locs cells slots mc ms g rest Qa free := by
  intro T hT X
  obtain ⟨v, st₀, t, T', L, h1, h2, h3, h4, h5, h6, h7⟩ := h T hT X
  exact ⟨v, st₀, t, T', L, s.drawn, Drawn.sameBut.refl _ _, h1, h2, h3, h4, h5, h6, h7⟩
/-- behind a call -/
theorem m_after {Qr' : MO → MH → Prop} {mc' ms' : Nat} (hmc : mc' ≤ mc) (hms : ms' ≤ ms) {D : va_G} {a : Nat → Nat} {s0 : Nat} {p : Program} {l : Launch} {e : Env} {R : Room} {s : State} {m : MethodId} {args : Array Value} {below : List Frame} {meth : Method} {c : Code} {H : Heap} {locs : List Loc} {cells slots MC MS : Nat} {Q : State → Prop} {ls : Array Slot} {st : List Value} {A : Array Value}
    (cx : mCx K p R s m args meth c s0 MC MS) (F : mFin l c K.1 K.2.2.2.2.2.1 D a s0 Qr below args MC MS s Q) (SS : va_S (fun q => s0 ≤ q) s.heap H locs) (hl : lv_has ls K.2.2.2.1 (mL (mad a s0) L)) (oL : mokL L) (oS : mokS S) (hc : cells + mc ≤ MC) (hs : slots + ms ≤ MS)
    (hrun : (K.1 ≠ 1 ∧ va_Run p l e R s m args below meth c H locs cells slots mc' ms' (F0 m pc ls st) (mS (mad a s0) S) (mQc D a s0 Qr' A) (fun q => s0 ≤ q)) ∨ (K.1 = 1 ∧ va_RunD lw_cs p l e R s m args below meth c H locs cells slots mc' ms' (F0 m pc ls st) (mS (mad a s0) S) (mQc D a s0 Qr' A) (fun q => s0 ≤ q)))
    (kk : ∀ (r : MO) (h' : MH), Qr' r h' → (r.1 = 0 → MW K Qr (mc - mc') (ms - ms') (pc + 3) L S h') ∧ (r.1 = 1 → MW K Qr (mc - mc') (ms - ms') (pc + 3) L (r.2 :: S) h')) :
    W p l e R s m args below meth c H locs cells slots Q (F0 m pc ls st) := by
  have go : ∀ (s' : State) (T' t st₀ : State) (L' : List Loc) (v : Option Value), s'.heap = s.heap → s'.vm = s.vm → mCx K p R s' m args meth c s0 MC MS → mFin l c K.1 K.2.2.2.2.2.1 D a s0 Qr below args MC MS s' Q → st₀.heap = H → Stand p l e R s' m args below meth c T' (locs ++ L') (cells + mc') (slots + ms') → (∀ q ∈ L', s0 ≤ q.base) → T'.heap = t.heap → T'.vm = t.vm → mQc D a s0 Qr' A st₀ (.returned v) t →
      ∃ tt, Steps p.tables e below (T'.setTop (F0 m (pc + 3) ls (v.toList ++ mS (mad a s0) S))) tt ∧ Q tt := by
    intro s' T' t st₀ L' v hsh hsv cx' F' h0 X' hL e1 e2 hq
    obtain ⟨r, h', hr, ov, ho, P', hz, hkp⟩ := hq
    have hvm : t.vm.Alike s'.vm := by rw [← e2]; exact (X'.warmed.alike).symm
    have P2 : mRep D a s0 s' t.heap h' := P'.moved hvm
    rw [h0] at hz hkp
    have SS' : va_S (fun q => s0 ≤ q) s'.heap t.heap (locs ++ L') := by
      rw [hsh]
      refine ⟨Nat.le_trans SS.1 hz, fun q h1 h2 => ?_, fun q hq => ?_⟩
      · rw [hkp q (Nat.lt_of_lt_of_le h1 SS.1) h2]
        exact SS.2.1 q h1 h2
      · rcases List.mem_append.mp hq with z | z
        · exact SS.2.2 q z
        · exact hL q z
    rcases ho with ⟨hr0, hv⟩ | ⟨hr1, hv⟩
    · cases hv
      exact (kk r h' hr).1 hr0 D a s0 p l e R s' m args below meth c t.heap (locs ++ L') (cells + mc') (slots + ms') MC MS Q ls cx' F' P2 SS' hl oL oS (by omega) (by omega) T' e1 X'
    · cases hv
      exact (kk r h' hr).2 hr1 D a s0 p l e R s' m args below meth c t.heap (locs ++ L') (cells + mc') (slots + ms') MC MS Q ls cx' F' P2 SS' hl oL (mokS_cons.mpr ⟨ov, oS⟩) (by omega) (by omega) T' e1 X'
  intro T hT X
  rcases hrun with ⟨-, hrun⟩ | ⟨hk1, hrun⟩
  · obtain ⟨v, st₀, t, T', L', h0, X', hL, e1, e2, hq, st'⟩ := hrun T hT X
    obtain ⟨tt, a1, b1⟩ := go s T' t st₀ L' v rfl rfl cx F h0 X' hL e1 e2 hq
    exact ⟨tt, st' tt a1, b1⟩
  · obtain ⟨v, st₀, t, T', L', d', hd', h0, X', hL, e1, e2, hq, st'⟩ := hrun T hT X
    obtain ⟨hex, s1, d0, e3, hd0, e4⟩ : (1000 ≤ K.2.2.2.2.2.1 → mEX l s s0) ∧ ∃ (s1 : State) (d0 : Drawn), s = s1.setDrawn d0 ∧ s1.drawn.sameBut d0 lw_cs ∧ Q = MQD lw_cs below (mQc D a s0 Qr) args s1 MC MS (fun q => s0 ≤ q) := by
      rcases F with ⟨z, -⟩ | ⟨-, z⟩ | ⟨z, -⟩
      · omega
      · exact z
      · omega
    obtain ⟨tt, a1, b1⟩ := go (s.setDrawn d') T' t st₀ L' v rfl rfl ⟨cx.1, cx.2.1, cx.2.2.1, cx.2.2.2.1, cx.2.2.2.2.1, dr_words cx.2.2.2.2.2.1 d', cx.2.2.2.2.2.2.1, cx.2.2.2.2.2.2.2.1, cx.2.2.2.2.2.2.2.2.1, cx.2.2.2.2.2.2.2.2.2.1, cx.2.2.2.2.2.2.2.2.2.2.1, cx.2.2.2.2.2.2.2.2.2.2.2.1, cx.2.2.2.2.2.2.2.2.2.2.2.2.1, mNs.drawn d' cx.2.2.2.2.2.2.2.2.2.2.2.2.2⟩ (Or.inr (Or.inl ⟨hk1, fun z => (hex z).drawn d', s1, d', by rw [e3]; rfl, hd0.trans (by rw [e3] at hd'; exact hd'), e4⟩)) h0 X' hL e1 e2 hq
    exact ⟨tt, st' tt a1, b1⟩
end ME
