/-! the JDK methods that the class calls: fill, arraycopy, floorDiv -/
theorem li_Sys : Cond.initialized "java/lang/System" ∈ mTB := mTB_of (sg1 (List.mem_of_getElem? (i := 36) rfl)) rfl
theorem lv_copy_s : Cond.static arraycopyName ∈ mTB := mTB_of (sg5 (List.mem_of_getElem? (i := 69) rfl)) rfl
theorem lv_copy_n : Cond.native arraycopyName ∈ mTB := mTB_of (sg5 (List.mem_of_getElem? (i := 70) rfl)) rfl
theorem mTB_wsX {own : String} {idx : Nat} {y : MethodName} {w0 : Cond} (h1 : Cond.methodLink own idx y ∈ mTB) (h2 : Cond.static y ∈ mTB) (h4 : Cond.initialized y.cls ∈ mTB) (h5 : w0 ∈ mTB) : GoodIn mTB (va_wsS own idx y (w0 :: mTB)) := mTB_in fun w hw => by
  unfold va_wsS at hw
  rcases List.mem_append.mp hw with z | z
  · simp only [List.mem_cons, List.not_mem_nil, or_false] at z
    rcases z with rfl | rfl | rfl
    · exact h1
    · exact h2
    · exact h4
  · exact (List.mem_cons.mp z).elim (fun q => q ▸ h5) id
section MX
variable {K K' : mK} {Qr Qr' : MO → MH → Prop} {mc ms mc' ms' pc idx : Nat} {L : List (Nat × MV)} {ST S As : List MV} {h : MH} {y : MethodName}
/-- a static method of another class -/
theorem m_invokestaticX (hd : decode K.2.2.1 pc = .ok (.invokestatic idx, 3)) (hk : K.1 ≠ 1 → K'.1 ≠ 1) (hcw : mCW K' y) (hw : Cond.methodLink K.2.1 idx y ∈ mTB ∧ Cond.static y ∈ mTB) (hy : (y.cls ≠ "java/lang/invoke/MethodHandle" ∧ y.cls ≠ "java/lang/invoke/VarHandle" ∧ (parseMethodDescriptor y.desc).map (fun d => d.parameters.length) = some As.length)) (hfit : mFit K K') (hwd : (S.map mcat).sum ≤ 8) (hst : ST = As.reverse ++ S) (hmc : mc' ≤ mc) (hms : ms' ≤ ms) (hM : MCal K' y mc' ms' As h Qr')
    (kk : ∀ (r : MO) (h' : MH), Qr' r h' → (r.1 = 0 → MW K Qr (mc - mc') (ms - ms') (pc + 3) L S h') ∧ (r.1 = 1 → MW K Qr (mc - mc') (ms - ms') (pc + 3) L (r.2 :: S) h')) : MW K Qr mc ms pc L ST h := by
  subst hst
  intro D a s0 p l e R s m args below meth c H locs cells slots MC MS Q ls cx F P SS hl oL oS hc' hs
  have oA : mokS As := fun v hv => (mokS_app oS).1 v (List.mem_reverse.mpr hv)
  have oR : mokS S := (mokS_app oS).2
  have hts := cx.2.2.2.2.2.1
  have hX : CallFix p m c K.2.2.1 K.2.2.2.1 s args mTB K.2.1 := ⟨cx.1, cx.2.1, cx.2.2.1, cx.2.2.2.2.1, hts⟩
  have hf : cells + mc' ≤ R.cells ∧ slots + ms' ≤ R.slots := ⟨by have := cx.2.2.2.2.2.2.2.2.2.1; omega, by have := cx.2.2.2.2.2.2.2.2.2.2.1; omega⟩
  have hR : K'.2.2.2.2.2.1 + 1 ≤ R.frames ∧ 8 + (K'.2.2.2.1 + 11) + K'.2.2.2.2.2.2 ≤ R.locals := ⟨by have := cx.2.2.2.2.2.2.2.1; have := hfit.1; omega, by have := cx.2.2.2.2.2.2.2.2.1; have := hfit.2; omega⟩
  have hwd' : 2 * (F0 m pc ls (mS (mad a s0) (As.reverse ++ S))).monitorRoom + ((mS (mad a s0) S).map fun v => v.category).sum ≤ 8 := by
    rw [mS_cat]
    show 2 * 0 + _ ≤ 8
    omega
  have hsk : mS (mad a s0) (As.reverse ++ S) = (As.map (mval (mad a s0))).reverse ++ mS (mad a s0) S := by
    rw [mS_append]
    show List.map _ As.reverse ++ mS (mad a s0) S = _
    rw [List.map_reverse]
  have hav : (As.map (mval (mad a s0))).toArray = (As.map (mval (mad a s0))).toArray := rfl
  have hn : (As.map (mval (mad a s0))).length = As.length := List.length_map _
  have hM0 := hM D a s0 l oA
  by_cases hk1 : K'.1 = 1
  · rw [if_pos hk1] at hM0
    have hM2 := hM0
    have _ := hk1
    refine m_after (A := (As.map (mval (mad a s0))).toArray) hmc hms cx F SS hl oL oR hc' hs (Or.inr ⟨Decidable.byContradiction fun z => hk z hk1, ?_⟩) kk
    exact va_runS_D (As := As.map (mval (mad a s0))) (rest := mS (mad a s0) S) hX hM2 (va_cwS As.length hts (mTB_wsX hw.1 hw.2 hcw.2 hcw.1) rfl rfl rfl hy hR) ⟨mPc_blind, fun U hU hW => ⟨hav, by rw [hU]; exact P.moved hW.alike, mNs.warm hW cx.2.2.2.2.2.2.2.2.2.2.2.2.2⟩⟩ rfl hn hl.1 hsk hwd' hd hf
  · rw [if_neg hk1] at hM0
    have hM2 := hM0
    have _ := hk1
    by_cases z : K.1 = 1
    · refine m_after (A := (As.map (mval (mad a s0))).toArray) hmc hms cx F SS hl oL oR hc' hs (Or.inr ⟨z, ?_⟩) kk
      exact (va_runS (As := As.map (mval (mad a s0))) (rest := mS (mad a s0) S) hX hM2 (va_cwS As.length hts (mTB_wsX hw.1 hw.2 hcw.2 hcw.1) rfl rfl rfl hy hR) ⟨mPc_blind, fun U hU hW => ⟨hav, by rw [hU]; exact P.moved hW.alike, mNs.warm hW cx.2.2.2.2.2.2.2.2.2.2.2.2.2⟩⟩ rfl hn hl.1 hsk hwd' hd hf).toD
    · refine m_after (A := (As.map (mval (mad a s0))).toArray) hmc hms cx F SS hl oL oR hc' hs (Or.inl ⟨z, ?_⟩) kk
      exact va_runS (As := As.map (mval (mad a s0))) (rest := mS (mad a s0) S) hX hM2 (va_cwS As.length hts (mTB_wsX hw.1 hw.2 hcw.2 hcw.1) rfl rfl rfl hy hR) ⟨mPc_blind, fun U hU hW => ⟨hav, by rw [hU]; exact P.moved hW.alike, mNs.warm hW cx.2.2.2.2.2.2.2.2.2.2.2.2.2⟩⟩ rfl hn hl.1 hsk hwd' hd hf
end MX
/-- elements i .. j - 1 of cell a are v -/
def hfill (h : MH) (a i j : Nat) (v : Int) : MH := (h.1, fun b => if b = a then ((h.2 a).1, (h.2 a).2.1, fun q => if i ≤ q ∧ q < j then v else (h.2 a).2.2 q) else h.2 b)
theorem hfill_at (h : MH) (a i j : Nat) (v : Int) : (hfill h a i j v).2 a = ((h.2 a).1, (h.2 a).2.1, fun q => if i ≤ q ∧ q < j then v else (h.2 a).2.2 q) := if_pos rfl
theorem hfill_0 (h : MH) (a i : Nat) (v : Int) : hfill h a i i v = h := by
  unfold hfill
  refine Prod.ext rfl (funext fun b => ?_)
  show (if b = a then _ else h.2 b) = h.2 b
  by_cases e : b = a
  · rw [if_pos e, e]
    refine Prod.ext rfl (Prod.ext rfl (funext fun q => ?_))
    show (if i ≤ q ∧ q < i then v else (h.2 a).2.2 q) = _
    rw [if_neg (by omega)]
  · rw [if_neg e]
theorem hfill_s (h : MH) (a : Nat) {i k : Nat} (hi : i ≤ k) (v : Int) : hset (hfill h a i k v) a k v = hfill h a i (k + 1) v := by
  unfold hset
  refine Prod.ext rfl (funext fun b => ?_)
  show (if b = a then (((hfill h a i k v).2 a).1, ((hfill h a i k v).2 a).2.1, fun q => if q = k then v else ((hfill h a i k v).2 a).2.2 q) else (hfill h a i k v).2 b) = (hfill h a i (k + 1) v).2 b
  rw [hfill_at]
  by_cases e : b = a
  · rw [if_pos e, e, hfill_at]
    refine Prod.ext rfl (Prod.ext rfl (funext fun q => ?_))
    show (if q = k then v else if i ≤ q ∧ q < k then v else (h.2 a).2.2 q) = if i ≤ q ∧ q < k + 1 then v else (h.2 a).2.2 q
    by_cases e1 : q = k
    · rw [if_pos e1, if_pos (by omega)]
    · rw [if_neg e1]
      by_cases e2 : i ≤ q ∧ q < k
      · rw [if_pos e2, if_pos (by omega)]
      · rw [if_neg e2, if_neg (by omega)]
  · rw [if_neg e]
    unfold hfill
    show (if b = a then _ else h.2 b) = if b = a then _ else h.2 b
    rw [if_neg e, if_neg e]
abbrev kFI : mK := (0, RJ7, cJ7_fill_53178, 4, none, 0, 0)
abbrev kFL : mK := (0, RJ7, cJ7_fill_d0a16, 5, none, 0, 0)
abbrev kRC : mK := (0, RJ7, cJ7_rangeCheck_23922, 3, none, 0, 0)
abbrev kFR : mK := (0, RJ7, cJ7_fill_fda19, 5, none, 1, 22)
abbrev kFD : mK := (0, RJ9, cJ9_floorDiv_f86c9, 6, some .long, 0, 0)
theorem sub4 {L : List (Nat × MV)} {a b c d : Nat × MV} (h1 : mlook L a.1 = some a.2) (h2 : mlook L b.1 = some b.2) (h3 : mlook L c.1 = some c.2) (h4 : mlook L d.1 = some d.2) : ∀ q ∈ [a, b, c, d], mlook L q.1 = some q.2 := List.forall_mem_cons.mpr ⟨h1, List.forall_mem_cons.mpr ⟨h2, List.forall_mem_cons.mpr ⟨h3, List.forall_mem_cons.mpr ⟨h4, fun _ h => absurd h List.not_mem_nil⟩⟩⟩⟩
/-- a method that the machine has no entry for, of a class that has entries -/
theorem MCal.ofMWF {K : mK} {y : MethodName} {mc ms : Nat} {As : List MV} {h : MH} {Qr : MO → MH → Prop} (hk : K.1 = 0) (hy : plainFor y = true ∧ y.cls = K.2.1) (hn : mwid As ≤ K.2.2.2.1) (k : MW K Qr mc ms 0 (margs 0 As) [] h) : MCal K y mc ms As h Qr := by
  intro D x s0 l oA
  rw [if_neg (by omega)]
  refine va_MetF (cc := K.2.2.1) (maxL := K.2.2.2.1) (ret := K.2.2.2.2.1) hy.1 rfl ?_
  intro p e s m args below meth c s₁ B hml hv
  obtain ⟨rfl, P, hN⟩ := hv
  have hts := atoms_spec B.pre
  have hl := lv_entry (As.map (mval (mad x s0))) (n := K.2.2.2.1) (by rw [mwid_len]; exact hn)
  rw [lg_entry_eq]
  rw [margs_map] at hl
  refine k D x s0 p l e _ s m _ below meth c s.heap [] 0 0 mc ms _ _ ⟨B.exec, B.bytes, hml, B.returns, ?_, fun w hw => hts w (List.mem_cons_of_mem _ hw), B.notSynchronized, Nat.le_refl _, Nat.le_refl _, Nat.le_refl _, Nat.le_refl _, ?_, fun q => by omega, hN⟩ (Or.inl ⟨by omega, rfl⟩) P va_S.rf hl (margs_ok oA 0) (fun v hv => by cases hv) (by omega) (by omega)
  · rw [← hy.2]; exact findClass_of_methodNamed B.named
  · have e1 := P.1
    have e2 := P.2.1
    show s0 ≤ s.heap.size
    omega
section FI
variable {h : MH} {r v : Int}
theorem fillI_of (h0 : 0 ≤ r) (h4 : 4 ≤ r.toNat) (hr : r.toNat < h.1) (hk : (h.2 r.toNat).1 = 0) (hn : (h.2 r.toNat).2.1 ≤ 2147483646) : MCal kFI yJ7_fill_53178 0 0 [(2, r), (0, v)] h fun o h' => o.1 = 0 ∧ h' = hfill h r.toNat 0 (h.2 r.toNat).2.1 v := by
  refine MCal.ofMW (Or.inl rfl) ⟨by decide, rfl⟩ (Nat.le_of_ble_eq_true rfl) ?_
  show MW kFI _ 0 0 0 [(0, (2, r)), (1, (0, v))] [] h
  have loop : ∀ (N k : Nat), k ≤ (h.2 r.toNat).2.1 → (h.2 r.toNat).2.1 - k = N → MW kFI (fun o h' => o.1 = 0 ∧ h' = hfill h r.toNat 0 (h.2 r.toNat).2.1 v) 0 0 5 [(2, (0, (k : Int))), (3, (0, ((h.2 r.toNat).2.1 : Int))), (0, (2, r)), (1, (0, v))] [] (hfill h r.toNat 0 k v) := by
    intro N
    induction N with
    | zero =>
      intro k hk1 hN
      have e : k = (h.2 r.toNat).2.1 := by omega
      refine m_iload_n 6 (j := 2) (by decide +kernel) rfl rfl ?_
      refine m_iload_n 7 (j := 3) (by decide +kernel) rfl rfl ?_
      refine m_ic_ge 10 20 (off := 13) (by decide +kernel) rfl rfl (fun _ => ?_) (fun q => absurd q (by omega))
      refine m_return (by decide +kernel) rfl ⟨rfl, ?_⟩
      rw [e]
    | succ N ih =>
      intro k hk1 hN
      refine m_iload_n 6 (j := 2) (by decide +kernel) rfl rfl ?_
      refine m_iload_n 7 (j := 3) (by decide +kernel) rfl rfl ?_
      refine m_ic_ge 10 20 (off := 13) (by decide +kernel) rfl rfl (fun q => absurd q (by omega)) (fun _ => ?_)
      refine m_aload_n 11 (j := 0) (by decide +kernel) rfl rfl h0 ?_
      refine m_iload_n 12 (j := 2) (by decide +kernel) rfl rfl ?_
      refine m_iload_n 13 (j := 1) (by decide +kernel) rfl rfl ?_
      refine m_iast 14 (by decide +kernel) rfl h0 h4 hr (by rw [hfill_at]; exact hk) (by omega) (by rw [hfill_at]; show (k : Int) < ((h.2 r.toNat).2.1 : Int); omega) ?_
      refine m_iinc 17 (i := 2) (n := 1) (by decide +kernel) rfl (by decide) (x := (k : Int)) rfl (by omega) ?_
      refine m_goto 5 (off := -12) (by decide +kernel) rfl ?_
      rw [show ((k : Int)).toNat = k from rfl, hfill_s h r.toNat (Nat.zero_le k) v]
      exact ih (k + 1) (by omega) (by omega)
  refine m_iconst 1 (n := 0) (by decide +kernel) rfl (by decide) ?_
  refine m_istore_n 2 (j := 2) (i := 2) rfl (by decide +kernel) rfl (by decide) ?_
  refine m_aload_n 3 (j := 0) (by decide +kernel) rfl rfl h0 ?_
  refine m_alen 4 (by decide +kernel) rfl h0 hr (by omega) (by omega) ?_
  refine m_istore_n 5 (j := 3) (i := 3) rfl (by decide +kernel) rfl (by decide) ?_
  have z := loop _ 0 (Nat.zero_le _) rfl
  rw [hfill_0] at z
  exact m_sub _ (sub4 rfl rfl rfl rfl) z
theorem fillL_of (h0 : 0 ≤ r) (h4 : 4 ≤ r.toNat) (hr : r.toNat < h.1) (hk : (h.2 r.toNat).1 = 1) (hn : (h.2 r.toNat).2.1 ≤ 2147483646) : MCal kFL yJ7_fill_d0a16 0 0 [(2, r), (1, v)] h fun o h' => o.1 = 0 ∧ h' = hfill h r.toNat 0 (h.2 r.toNat).2.1 v := by
  refine MCal.ofMW (Or.inl rfl) ⟨by decide, rfl⟩ (Nat.le_of_ble_eq_true rfl) ?_
  show MW kFL _ 0 0 0 [(0, (2, r)), (1, (1, v))] [] h
  have loop : ∀ (N k : Nat), k ≤ (h.2 r.toNat).2.1 → (h.2 r.toNat).2.1 - k = N → MW kFL (fun o h' => o.1 = 0 ∧ h' = hfill h r.toNat 0 (h.2 r.toNat).2.1 v) 0 0 6 [(3, (0, (k : Int))), (4, (0, ((h.2 r.toNat).2.1 : Int))), (0, (2, r)), (1, (1, v))] [] (hfill h r.toNat 0 k v) := by
    intro N
    induction N with
    | zero =>
      intro k hk1 hN
      have e : k = (h.2 r.toNat).2.1 := by omega
      refine m_iload_n 7 (j := 3) (by decide +kernel) rfl rfl ?_
      refine m_iload 9 (i := 4) (by decide +kernel) rfl rfl ?_
      refine m_ic_ge 12 22 (off := 13) (by decide +kernel) rfl rfl (fun _ => ?_) (fun q => absurd q (by omega))
      refine m_return (by decide +kernel) rfl ⟨rfl, ?_⟩
      rw [e]
    | succ N ih =>
      intro k hk1 hN
      refine m_iload_n 7 (j := 3) (by decide +kernel) rfl rfl ?_
      refine m_iload 9 (i := 4) (by decide +kernel) rfl rfl ?_
      refine m_ic_ge 12 22 (off := 13) (by decide +kernel) rfl rfl (fun q => absurd q (by omega)) (fun _ => ?_)
      refine m_aload_n 13 (j := 0) (by decide +kernel) rfl rfl h0 ?_
      refine m_iload_n 14 (j := 3) (by decide +kernel) rfl rfl ?_
      refine m_lload_n 15 (j := 1) (by decide +kernel) rfl rfl ?_
      refine m_last 16 (by decide +kernel) rfl h0 h4 hr (by rw [hfill_at]; exact hk) (by omega) (by rw [hfill_at]; show (k : Int) < ((h.2 r.toNat).2.1 : Int); omega) ?_
      refine m_iinc 19 (i := 3) (n := 1) (by decide +kernel) rfl (by decide) (x := (k : Int)) rfl (by omega) ?_
      refine m_goto 6 (off := -13) (by decide +kernel) rfl ?_
      rw [show ((k : Int)).toNat = k from rfl, hfill_s h r.toNat (Nat.zero_le k) v]
      exact ih (k + 1) (by omega) (by omega)
  refine m_iconst 1 (n := 0) (by decide +kernel) rfl (by decide) ?_
  refine m_istore_n 2 (j := 3) (i := 3) rfl (by decide +kernel) rfl (by decide) ?_
  refine m_aload_n 3 (j := 0) (by decide +kernel) rfl rfl h0 ?_
  refine m_alen 4 (by decide +kernel) rfl h0 hr (by omega) (by omega) ?_
  refine m_istore 6 (i := 4) (by decide +kernel) rfl (by decide) ?_
  have z := loop _ 0 (Nat.zero_le _) rfl
  rw [hfill_0] at z
  exact m_sub _ (sub4 rfl rfl rfl rfl) z
theorem rangeCheck_of {n a b : Int} (h1 : 0 ≤ a) (h2 : a ≤ b) (h3 : b ≤ n) : MCal kRC yJ7_rangeCheck_23922 0 0 [(0, n), (0, a), (0, b)] h fun o h' => o.1 = 0 ∧ h' = h := by
  refine MCal.ofMW (Or.inl rfl) ⟨by decide, rfl⟩ (Nat.le_of_ble_eq_true rfl) ?_
  show MW kRC _ 0 0 0 [(0, (0, n)), (1, (0, a)), (2, (0, b))] [] h
  refine m_iload_n 1 (j := 1) (by decide +kernel) rfl rfl ?_
  refine m_iload_n 2 (j := 2) (by decide +kernel) rfl rfl ?_
  refine m_ic_le 5 46 (off := 44) (by decide +kernel) rfl rfl (fun _ => ?_) (fun q => absurd h2 q)
  refine m_iload_n 47 (j := 1) (by decide +kernel) rfl rfl ?_
  refine m_if_ge 50 59 (off := 12) (by decide +kernel) rfl rfl (fun _ => ?_) (fun q => absurd h1 q)
  refine m_iload_n 60 (j := 2) (by decide +kernel) rfl rfl ?_
  refine m_iload_n 61 (j := 0) (by decide +kernel) rfl rfl ?_
  refine m_ic_le 64 73 (off := 12) (by decide +kernel) rfl rfl (fun _ => ?_) (fun q => absurd h3 q)
  exact m_return (by decide +kernel) rfl ⟨rfl, rfl⟩
theorem sub5 {L : List (Nat × MV)} {a b c d e : Nat × MV} (h1 : mlook L a.1 = some a.2) (h2 : mlook L b.1 = some b.2) (h3 : mlook L c.1 = some c.2) (h4 : mlook L d.1 = some d.2) (h5 : mlook L e.1 = some e.2) : ∀ q ∈ [a, b, c, d, e], mlook L q.1 = some q.2 := List.forall_mem_cons.mpr ⟨h1, sub4 h2 h3 h4 h5⟩
theorem fillR_of {a b : Int} (h0 : 0 ≤ r) (h4 : 4 ≤ r.toNat) (hr : r.toNat < h.1) (hk : (h.2 r.toNat).1 = 0) (hn : (h.2 r.toNat).2.1 ≤ 2147483646) (a0 : 0 ≤ a) (ab : a ≤ b) (bn : b ≤ ((h.2 r.toNat).2.1 : Int)) : MCal kFR yJ7_fill_fda19 0 0 [(2, r), (0, a), (0, b), (0, v)] h fun o h' => o.1 = 0 ∧ h' = hfill h r.toNat a.toNat b.toNat v := by
  refine MCal.ofMW (Or.inl rfl) ⟨by decide, rfl⟩ (Nat.le_of_ble_eq_true rfl) ?_
  show MW kFR _ 0 0 0 [(0, (2, r)), (1, (0, a)), (2, (0, b)), (3, (0, v))] [] h
  have loop : ∀ (N k : Nat), a.toNat ≤ k → k ≤ b.toNat → b.toNat - k = N → MW kFR (fun o h' => o.1 = 0 ∧ h' = hfill h r.toNat a.toNat b.toNat v) 0 0 10 [(4, (0, (k : Int))), (2, (0, b)), (0, (2, r)), (3, (0, v))] [] (hfill h r.toNat a.toNat k v) := by
    intro N
    induction N with
    | zero =>
      intro k ha hk1 hN
      have e : k = b.toNat := by omega
      refine m_iload 12 (i := 4) (by decide +kernel) rfl rfl ?_
      refine m_iload_n 13 (j := 2) (by decide +kernel) rfl rfl ?_
      refine m_ic_ge 16 27 (off := 14) (by decide +kernel) rfl rfl (fun _ => ?_) (fun q => absurd q (by omega))
      refine m_return (by decide +kernel) rfl ⟨rfl, ?_⟩
      rw [e]
    | succ N ih =>
      intro k ha hk1 hN
      refine m_iload 12 (i := 4) (by decide +kernel) rfl rfl ?_
      refine m_iload_n 13 (j := 2) (by decide +kernel) rfl rfl ?_
      refine m_ic_ge 16 27 (off := 14) (by decide +kernel) rfl rfl (fun q => absurd q (by omega)) (fun _ => ?_)
      refine m_aload_n 17 (j := 0) (by decide +kernel) rfl rfl h0 ?_
      refine m_iload 19 (i := 4) (by decide +kernel) rfl rfl ?_
      refine m_iload_n 20 (j := 3) (by decide +kernel) rfl rfl ?_
      refine m_iast 21 (by decide +kernel) rfl h0 h4 hr (by rw [hfill_at]; exact hk) (by omega) (by rw [hfill_at]; show (k : Int) < ((h.2 r.toNat).2.1 : Int); omega) ?_
      refine m_iinc 24 (i := 4) (n := 1) (by decide +kernel) rfl (by decide) (x := (k : Int)) rfl (by omega) ?_
      refine m_goto 10 (off := -14) (by decide +kernel) rfl ?_
      rw [show ((k : Int)).toNat = k from rfl, hfill_s h r.toNat ha v]
      exact ih (k + 1) (by omega) (by omega) (by omega)
  refine m_aload_n 1 (j := 0) (by decide +kernel) rfl rfl h0 ?_
  refine m_alen 2 (by decide +kernel) rfl h0 hr (by omega) (by omega) ?_
  refine m_iload_n 3 (j := 1) (by decide +kernel) rfl rfl ?_
  refine m_iload_n 4 (j := 2) (by decide +kernel) rfl rfl ?_
  refine m_invokestaticX (K' := kRC) (y := yJ7_rangeCheck_23922) (idx := 13) (As := [(0, ((h.2 r.toNat).2.1 : Int)), (0, a), (0, b)]) (S := []) (by decide +kernel) (fun _ => by decide) ⟨lo_J7_rangeCheck_23922, li_J7⟩ ⟨lmJ7_13, lv_J7_rangeCheck_23922_s⟩ ⟨by decide, by decide, (by show _ = some 3; decide +kernel)⟩ ⟨by decide, by decide⟩ (Nat.zero_le _) rfl (Nat.zero_le _) (Nat.zero_le _) (rangeCheck_of a0 ab bn) fun o h' q => ⟨fun _ => ?_, fun z => by rw [q.1] at z; cases z⟩
  rw [q.2]
  refine m_iload_n 8 (j := 1) (by decide +kernel) rfl rfl ?_
  refine m_istore 10 (i := 4) (by decide +kernel) rfl (by decide) ?_
  have z := loop _ a.toNat (Nat.le_refl _) (by omega) rfl
  rw [hfill_0, Int.toNat_of_nonneg a0] at z
  exact m_sub _ (sub4 rfl rfl rfl rfl) z
/-- above 0 the divisor: it answers a number -/
theorem floorDiv_of {x y : Int} (hx : -9223372036854775808 ≤ x ∧ x ≤ 9223372036854775807) (hy : 1 ≤ y) : MCal kFD yJ9_floorDiv_f86c9 0 0 [(1, x), (1, y)] h fun o h' => o.1 = 1 ∧ (∃ z, o.2 = (1, z)) ∧ h' = h := by
  refine MCal.ofMWF rfl ⟨by decide +kernel, rfl⟩ (Nat.le_of_ble_eq_true rfl) ?_
  show MW kFD _ 0 0 0 [(0, (1, x)), (2, (1, y))] [] h
  have rr : -9223372036854775808 ≤ x.tdiv y ∧ x.tdiv y ≤ 9223372036854775807 := by
    have p := Int.natAbs_tdiv x y
    have q : (x.tdiv y).natAbs ≤ x.natAbs := by
      rw [p]
      exact Nat.div_le_self _ _
    by_cases x0 : 0 ≤ x
    · have n := Int.tdiv_nonneg x0 (show 0 ≤ y by omega)
      omega
    · have n := Int.tdiv_nonneg (show 0 ≤ -x by omega) (show 0 ≤ y by omega)
      rw [Int.neg_tdiv] at n
      omega
  refine m_lload_n 1 (j := 0) (by decide +kernel) rfl rfl ?_
  refine m_lload_n 2 (j := 2) (by decide +kernel) rfl rfl ?_
  refine m_ldiv 3 (by decide +kernel) rfl (by omega) rr ?_
  refine m_lstore 5 (i := 4) (by decide +kernel) rfl (by decide) ?_
  refine m_lload_n 6 (j := 0) (by decide +kernel) rfl rfl ?_
  refine m_lload_n 7 (j := 2) (by decide +kernel) rfl rfl ?_
  refine m_lxor 8 (by decide +kernel) rfl ?_
  refine m_lconst 9 (n := 0) (by decide +kernel) rfl ?_
  have done : MW kFD (fun o h' => o.1 = 1 ∧ (∃ z, o.2 = (1, z)) ∧ h' = h) 0 0 27 (mput2 [(0, (1, x)), (2, (1, y))] 4 (1, x.tdiv y)) [] h := by
    refine m_lload 29 (i := 4) (by decide +kernel) rfl rfl ?_
    exact m_lreturn (by decide +kernel) rfl ⟨rfl, ⟨_, rfl⟩, rfl⟩
  refine m_lc_ge 13 27 (off := 17) (by decide +kernel) (by decide +kernel) rfl rfl (fun _ => done) (fun _ => ?_)
  refine m_lload 15 (i := 4) (by decide +kernel) rfl rfl ?_
  refine m_lload_n 16 (j := 2) (by decide +kernel) rfl rfl ?_
  refine m_lmulW 17 (by decide +kernel) rfl ?_
  refine m_lload_n 18 (j := 0) (by decide +kernel) rfl rfl ?_
  refine m_lc_eq 22 27 (off := 8) (by decide +kernel) (by decide +kernel) rfl rfl (fun _ => done) (fun _ => ?_)
  refine m_lload 24 (i := 4) (by decide +kernel) rfl rfl ?_
  refine m_lconst 25 (n := 1) (by decide +kernel) rfl ?_
  refine m_lsubW 26 (by decide +kernel) rfl ?_
  exact m_lreturn (by decide +kernel) rfl ⟨rfl, ⟨_, rfl⟩, rfl⟩
end FI
/-- what lies in cell a from sp on comes into cell b from dp on -/
def hcopy (h : MH) (a b sp dp n : Nat) : MH := (h.1, fun c => if c = b then ((h.2 b).1, (h.2 b).2.1, fun q => if dp ≤ q ∧ q < dp + n then (h.2 a).2.2 (sp + (q - dp)) else (h.2 b).2.2 q) else h.2 c)
theorem mI_nn {z : Int} (h : -2147483648 ≤ z ∧ z ≤ 2147483647) (h0 : 0 ≤ z) : ¬ Int32.ofInt z < 0 := fun q => by
  have q2 := Int32.lt_iff_toInt_lt.mp q
  rw [mI_toInt h] at q2
  have : (0 : Int32).toInt = 0 := rfl
  omega
theorem mokC_copy {h : MH} {a b sp dp n : Nat} {k : Nat} (oa : mokC (h.2 a)) (ob : mokC (h.2 b)) (ka : (h.2 a).1 = k) (kb : (h.2 b).1 = k) (hk : k < 16) (hs : sp + n ≤ (h.2 a).2.1) : mokC ((h.2 b).1, (h.2 b).2.1, fun q => if dp ≤ q ∧ q < dp + n then (h.2 a).2.2 (sp + (q - dp)) else (h.2 b).2.2 q) := by
  unfold mokC at oa ob ⊢
  have a16 : (h.2 a).1 < 16 := by omega
  have b16 : (h.2 b).1 < 16 := by omega
  rw [if_pos a16] at oa
  rw [if_pos b16] at ob ⊢
  intro j hj
  show mokE (h.2 b).1 (if dp ≤ j ∧ j < dp + n then (h.2 a).2.2 (sp + (j - dp)) else (h.2 b).2.2 j)
  split
  · rw [kb, ← ka]
    exact oa _ (by omega)
  · exact ob j hj
section CP
variable {K : mK} {Qr : MO → MH → Prop} {mc ms pc idx : Nat} {L : List (Nat × MV)} {S : List MV} {h : MH}
theorem m_copyI (hd : decode K.2.2.1 pc = .ok (.invokestatic idx, 3)) (hw : Cond.methodLink K.2.1 idx arraycopyName ∈ mTB) (hr : 1 ≤ K.2.2.2.2.2.1 ∧ 26 ≤ K.2.2.2.2.2.2) (hwd : (S.map mcat).sum ≤ 8) {a b sp dp n : Int} (a0 : 0 ≤ a) (a4 : 4 ≤ a.toNat) (ah : a.toNat < h.1) (ak : (h.2 a.toNat).1 = 0) (b0 : 0 ≤ b) (b4 : 4 ≤ b.toNat) (bh : b.toNat < h.1) (bk : (h.2 b.toNat).1 = 0) (h1 : 0 ≤ sp) (h2 : 0 ≤ dp) (h3 : 0 ≤ n) (h4 : sp + n ≤ ((h.2 a.toNat).2.1 : Int)) (h5 : dp + n ≤ ((h.2 b.toNat).2.1 : Int))
    (kk : MW K Qr mc ms (pc + 3) L S (hcopy h a.toNat b.toNat sp.toNat dp.toNat n.toNat)) : MW K Qr mc ms pc L ((0, n) :: (0, dp) :: (2, b) :: (0, sp) :: (2, a) :: S) h := by
  intro D x s0 p l e R s m args below meth c H locs cells slots MC MS Q ls cx F P SS hl oL oS hc' hs'
  have hts := cx.2.2.2.2.2.1
  have on := mok_i (mokS_cons.mp oS).1
  have od := mok_i (mokS_cons.mp (mokS_cons.mp oS).2).1
  have os := mok_i (mokS_cons.mp (mokS_cons.mp (mokS_cons.mp (mokS_cons.mp oS).2).2).2).1
  have oR := (mokS_cons.mp (mokS_cons.mp (mokS_cons.mp (mokS_cons.mp (mokS_cons.mp oS).2).2).2).2).2
  show W p l e R s m args below meth c H locs cells slots Q (F0 m pc ls (.int (Int32.ofInt n) :: .int (Int32.ofInt dp) :: mval (mad x s0) (2, b) :: .int (Int32.ofInt sp) :: mval (mad x s0) (2, a) :: mS (mad x s0) S))
  rw [mval_refP _ a0, mval_refP _ b0]
  have hA := P.2.2.2.2.2 a.toNat a4 ah
  have hB := P.2.2.2.2.2 b.toNat b4 bh
  unfold mAt at hA hB
  rw [if_pos (by omega)] at hA hB
  obtain ⟨cA, e1, e2, -⟩ := hA
  obtain ⟨cB, f1, f2, f3⟩ := hB
  rw [mvp_i (Or.inl ak), vp_cell_i] at e1
  rw [mvp_i (Or.inl bk), vp_cell_i] at f1
  rw [ak] at e2
  have f2' := f2
  rw [bk] at f2
  intro T hT X
  obtain ⟨-, k0, hk0, cm0, hkk0⟩ := e2 (h.2 a.toNat).2.1 (fun j => .int (Int32.ofInt ((h.2 a.toNat).2.2 j)))
  obtain ⟨-, k1, hk1, cm1, hkk1⟩ := f2 (h.2 b.toNat).2.1 (fun j => .int (Int32.ofInt ((h.2 b.toNat).2.2 j)))
  have t1 : (Int32.ofInt sp).toNatClampNeg = sp.toNat := mI_nat os
  have t2 : (Int32.ofInt dp).toNatClampNeg = dp.toNat := mI_nat od
  have t3 : (Int32.ofInt n).toNatClampNeg = n.toNat := mI_nat on
  have hlen : sp.toNat + n.toNat ≤ (h.2 a.toNat).2.1 := by omega
  obtain ⟨vm', X', step⟩ := X.arraycopy cx.1 cx.2.2.2.2.1 (hts _ hw) (hts _ lv_copy_n) (hts _ lv_copy_s) (hts _ li_Sys) (src := mad x s0 a.toNat) (dst := mad x s0 b.toNat) (srcPos := Int32.ofInt sp) (destPos := Int32.ofInt dp) (n := Int32.ofInt n) (by rw [hT]; exact e1) (by rw [hT]; exact f1)
    (fun _ q => by cases q) (fun _ q => by cases q) (fun q => by cases q) (fun q => by cases q) hk0 hk1 hkk0 hkk1 rfl (mI_nn os h1) (mI_nn od h2) (mI_nn on h3)
    (by rw [mI_toInt os, mI_toInt on, arrV_size]; omega) (by rw [mI_toInt od, mI_toInt on, arrV_size]; omega)
    (fun vm1 _ i hi => by
      rw [t3] at hi
      have e : (arrV cA (h.2 a.toNat).2.1 (fun j => .int (Int32.ofInt ((h.2 a.toNat).2.2 j)))).slots.getD ((Int32.ofInt sp).toNatClampNeg + i) .null = .int (Int32.ofInt ((h.2 a.toNat).2.2 ((Int32.ofInt sp).toNatClampNeg + i))) := by
        rw [Array.getD_eq_getD_getElem?, arrV_read _ _ (by rw [t1]; omega)]
        rfl
      rw [e]
      exact ⟨rfl, trivial⟩)
    (g := F0 m pc ls (.int (Int32.ofInt n) :: .int (Int32.ofInt dp) :: .ref (mad x s0 b.toNat) :: .int (Int32.ofInt sp) :: .ref (mad x s0 a.toNat) :: mS (mad x s0) S)) rfl (by rw [cx.2.2.1]; exact hl.1) (rest := mS (mad x s0) S) rfl (by rw [cx.2.1]; exact hd) (by have := cx.2.2.2.2.2.2.2.1; omega) (by
      rw [mS_cat]
      have := cx.2.2.2.2.2.2.2.2.1
      have q : nativeFrameWords "java/lang/System" "arraycopy" 5 = 7 := by decide
      show 2 * 0 + _ + _ ≤ _
      omega)
  have ec : copied (arrV cA (h.2 a.toNat).2.1 (fun j => .int (Int32.ofInt ((h.2 a.toNat).2.2 j)))) (arrV cB (h.2 b.toNat).2.1 (fun j => .int (Int32.ofInt ((h.2 b.toNat).2.2 j)))) (Int32.ofInt sp) (Int32.ofInt dp) (Int32.ofInt n) = arrV cB (h.2 b.toNat).2.1 (fun j => .int (va_cpy (fun j => Int32.ofInt ((h.2 a.toNat).2.2 j)) (fun j => Int32.ofInt ((h.2 b.toNat).2.2 j)) (Int32.ofInt sp).toNatClampNeg (Int32.ofInt dp).toNatClampNeg (Int32.ofInt n).toNatClampNeg j)) := va_copied (fun z => .int z) cA cB _ _ (by rw [t1, t3]; exact hlen)
  rw [ec, t1, t2, t3] at X' step
  have hlt : mad x s0 b.toNat < H.size := (Array.getElem?_eq_some_iff.mp f1).1
  generalize hN : arrV cB (h.2 b.toNat).2.1 (fun j => .int (va_cpy (fun j => Int32.ofInt ((h.2 a.toNat).2.2 j)) (fun j => Int32.ofInt ((h.2 b.toNat).2.2 j)) sp.toNat dp.toNat n.toNat j)) = N at X' step
  have hheap : ((T.setVm vm').setCell (mad x s0 b.toNat) N).heap = H.setIfInBounds (mad x s0 b.toNat) N := by rw [← hT]; rfl
  have oq : ∀ q : Nat, q ≠ mad x s0 b.toNat → (H.setIfInBounds (mad x s0 b.toNat) N)[q]? = H[q]? := fun q hq => by simp [Array.getElem?_setIfInBounds, Ne.symm hq]
  have eq' : (H.setIfInBounds (mad x s0 b.toNat) N)[mad x s0 b.toNat]? = some N := by simp [Array.getElem?_setIfInBounds, hlt]
  have sz : (H.setIfInBounds (mad x s0 b.toNat) N).size = H.size := by simp
  have P' : mRep D x s0 s (H.setIfInBounds (mad x s0 b.toNat) N) (hcopy h a.toNat b.toNat sp.toNat dp.toNat n.toNat) := by
    refine P.set b4 bh (mokC_copy (P.2.2.2.1 _ ah) (P.2.2.2.1 _ bh) ak bk (by decide) hlen) ?_ sz oq
    unfold mAt
    rw [if_pos (by show (h.2 b.toNat).1 < 16; omega)]
    refine ⟨cB, eq'.trans (congrArg some ?_), f2', f3⟩
    rw [← hN]
    refine Eq.trans ?_ (congrArg (vp_cell cB) (mvp_i (Or.inl (show ((h.2 b.toNat).1, (h.2 b.toNat).2.1, fun q => if dp.toNat ≤ q ∧ q < dp.toNat + n.toNat then (h.2 a.toNat).2.2 (sp.toNat + (q - dp.toNat)) else (h.2 b.toNat).2.2 q).1 = 0 from bk))).symm)
    rw [vp_cell_i]
    congr 1
    funext j
    show Value.int (va_cpy _ _ _ _ _ j) = Value.int (Int32.ofInt (if dp.toNat ≤ j ∧ j < dp.toNat + n.toNat then (h.2 a.toNat).2.2 (sp.toNat + (j - dp.toNat)) else (h.2 b.toNat).2.2 j))
    unfold va_cpy
    split <;> rfl
  have SS' := fun (L2 : List Loc) (hL : ∀ q ∈ L2, q.base = mad x s0 b.toNat) => (show va_S (fun q => s0 ≤ q) s.heap (H.setIfInBounds (mad x s0 b.toNat) N) (locs ++ L2) from ⟨by rw [sz]; exact SS.1, fun q g1 g2 => by
    rw [oq q (fun z => g2 (by rw [z, mad_ge b4]; exact Nat.le_add_right _ _))]
    exact SS.2.1 q g1 g2, fun q hq => by
    rcases List.mem_append.mp hq with z | z
    · exact SS.2.2 q z
    · rw [hL q z, mad_ge b4]
      exact Nat.le_add_right _ _⟩)
  obtain ⟨t, a1, b1⟩ := kk D x s0 p l e R s m args below meth c _ _ cells slots MC MS Q ls cx F P' (SS' _ (fun q hq => by
    obtain ⟨z, -, hz⟩ := List.mem_map.mp hq
    rw [← hz])) hl oL oR hc' hs' _ hheap X'
  exact ⟨t, step t a1, b1⟩
theorem m_copyL (hd : decode K.2.2.1 pc = .ok (.invokestatic idx, 3)) (hw : Cond.methodLink K.2.1 idx arraycopyName ∈ mTB) (hr : 1 ≤ K.2.2.2.2.2.1 ∧ 26 ≤ K.2.2.2.2.2.2) (hwd : (S.map mcat).sum ≤ 8) {a b sp dp n : Int} (a0 : 0 ≤ a) (a4 : 4 ≤ a.toNat) (ah : a.toNat < h.1) (ak : (h.2 a.toNat).1 = 1) (b0 : 0 ≤ b) (b4 : 4 ≤ b.toNat) (bh : b.toNat < h.1) (bk : (h.2 b.toNat).1 = 1) (h1 : 0 ≤ sp) (h2 : 0 ≤ dp) (h3 : 0 ≤ n) (h4 : sp + n ≤ ((h.2 a.toNat).2.1 : Int)) (h5 : dp + n ≤ ((h.2 b.toNat).2.1 : Int))
    (kk : MW K Qr mc ms (pc + 3) L S (hcopy h a.toNat b.toNat sp.toNat dp.toNat n.toNat)) : MW K Qr mc ms pc L ((0, n) :: (0, dp) :: (2, b) :: (0, sp) :: (2, a) :: S) h := by
  intro D x s0 p l e R s m args below meth c H locs cells slots MC MS Q ls cx F P SS hl oL oS hc' hs'
  have hts := cx.2.2.2.2.2.1
  have on := mok_i (mokS_cons.mp oS).1
  have od := mok_i (mokS_cons.mp (mokS_cons.mp oS).2).1
  have os := mok_i (mokS_cons.mp (mokS_cons.mp (mokS_cons.mp (mokS_cons.mp oS).2).2).2).1
  have oR := (mokS_cons.mp (mokS_cons.mp (mokS_cons.mp (mokS_cons.mp (mokS_cons.mp oS).2).2).2).2).2
  show W p l e R s m args below meth c H locs cells slots Q (F0 m pc ls (.int (Int32.ofInt n) :: .int (Int32.ofInt dp) :: mval (mad x s0) (2, b) :: .int (Int32.ofInt sp) :: mval (mad x s0) (2, a) :: mS (mad x s0) S))
  rw [mval_refP _ a0, mval_refP _ b0]
  have hA := P.2.2.2.2.2 a.toNat a4 ah
  have hB := P.2.2.2.2.2 b.toNat b4 bh
  unfold mAt at hA hB
  rw [if_pos (by omega)] at hA hB
  obtain ⟨cA, e1, e2, -⟩ := hA
  obtain ⟨cB, f1, f2, f3⟩ := hB
  rw [mvp_l ak, vp_cell_l] at e1
  rw [mvp_l bk, vp_cell_l] at f1
  rw [ak] at e2
  have f2' := f2
  rw [bk] at f2
  intro T hT X
  obtain ⟨-, k0, hk0, cm0, hkk0⟩ := e2 (h.2 a.toNat).2.1 (fun j => .long (Int64.ofInt ((h.2 a.toNat).2.2 j)))
  obtain ⟨-, k1, hk1, cm1, hkk1⟩ := f2 (h.2 b.toNat).2.1 (fun j => .long (Int64.ofInt ((h.2 b.toNat).2.2 j)))
  have t1 : (Int32.ofInt sp).toNatClampNeg = sp.toNat := mI_nat os
  have t2 : (Int32.ofInt dp).toNatClampNeg = dp.toNat := mI_nat od
  have t3 : (Int32.ofInt n).toNatClampNeg = n.toNat := mI_nat on
  have hlen : sp.toNat + n.toNat ≤ (h.2 a.toNat).2.1 := by omega
  obtain ⟨vm', X', step⟩ := X.arraycopy cx.1 cx.2.2.2.2.1 (hts _ hw) (hts _ lv_copy_n) (hts _ lv_copy_s) (hts _ li_Sys) (src := mad x s0 a.toNat) (dst := mad x s0 b.toNat) (srcPos := Int32.ofInt sp) (destPos := Int32.ofInt dp) (n := Int32.ofInt n) (by rw [hT]; exact e1) (by rw [hT]; exact f1)
    (fun _ q => by cases q) (fun _ q => by cases q) (fun q => by cases q) (fun q => by cases q) hk0 hk1 hkk0 hkk1 rfl (mI_nn os h1) (mI_nn od h2) (mI_nn on h3)
    (by rw [mI_toInt os, mI_toInt on, arrV_size]; omega) (by rw [mI_toInt od, mI_toInt on, arrV_size]; omega)
    (fun vm1 _ i hi => by
      rw [t3] at hi
      have e : (arrV cA (h.2 a.toNat).2.1 (fun j => .long (Int64.ofInt ((h.2 a.toNat).2.2 j)))).slots.getD ((Int32.ofInt sp).toNatClampNeg + i) .null = .long (Int64.ofInt ((h.2 a.toNat).2.2 ((Int32.ofInt sp).toNatClampNeg + i))) := by
        rw [Array.getD_eq_getD_getElem?, arrV_read _ _ (by rw [t1]; omega)]
        rfl
      rw [e]
      exact ⟨rfl, trivial⟩)
    (g := F0 m pc ls (.int (Int32.ofInt n) :: .int (Int32.ofInt dp) :: .ref (mad x s0 b.toNat) :: .int (Int32.ofInt sp) :: .ref (mad x s0 a.toNat) :: mS (mad x s0) S)) rfl (by rw [cx.2.2.1]; exact hl.1) (rest := mS (mad x s0) S) rfl (by rw [cx.2.1]; exact hd) (by have := cx.2.2.2.2.2.2.2.1; omega) (by
      rw [mS_cat]
      have := cx.2.2.2.2.2.2.2.2.1
      have q : nativeFrameWords "java/lang/System" "arraycopy" 5 = 7 := by decide
      show 2 * 0 + _ + _ ≤ _
      omega)
  have ec : copied (arrV cA (h.2 a.toNat).2.1 (fun j => .long (Int64.ofInt ((h.2 a.toNat).2.2 j)))) (arrV cB (h.2 b.toNat).2.1 (fun j => .long (Int64.ofInt ((h.2 b.toNat).2.2 j)))) (Int32.ofInt sp) (Int32.ofInt dp) (Int32.ofInt n) = arrV cB (h.2 b.toNat).2.1 (fun j => .long (va_cpy (fun j => Int64.ofInt ((h.2 a.toNat).2.2 j)) (fun j => Int64.ofInt ((h.2 b.toNat).2.2 j)) (Int32.ofInt sp).toNatClampNeg (Int32.ofInt dp).toNatClampNeg (Int32.ofInt n).toNatClampNeg j)) := va_copied (fun z => .long z) cA cB _ _ (by rw [t1, t3]; exact hlen)
  rw [ec, t1, t2, t3] at X' step
  have hlt : mad x s0 b.toNat < H.size := (Array.getElem?_eq_some_iff.mp f1).1
  generalize hN : arrV cB (h.2 b.toNat).2.1 (fun j => .long (va_cpy (fun j => Int64.ofInt ((h.2 a.toNat).2.2 j)) (fun j => Int64.ofInt ((h.2 b.toNat).2.2 j)) sp.toNat dp.toNat n.toNat j)) = N at X' step
  have hheap : ((T.setVm vm').setCell (mad x s0 b.toNat) N).heap = H.setIfInBounds (mad x s0 b.toNat) N := by rw [← hT]; rfl
  have oq : ∀ q : Nat, q ≠ mad x s0 b.toNat → (H.setIfInBounds (mad x s0 b.toNat) N)[q]? = H[q]? := fun q hq => by simp [Array.getElem?_setIfInBounds, Ne.symm hq]
  have eq' : (H.setIfInBounds (mad x s0 b.toNat) N)[mad x s0 b.toNat]? = some N := by simp [Array.getElem?_setIfInBounds, hlt]
  have sz : (H.setIfInBounds (mad x s0 b.toNat) N).size = H.size := by simp
  have P' : mRep D x s0 s (H.setIfInBounds (mad x s0 b.toNat) N) (hcopy h a.toNat b.toNat sp.toNat dp.toNat n.toNat) := by
    refine P.set b4 bh (mokC_copy (P.2.2.2.1 _ ah) (P.2.2.2.1 _ bh) ak bk (by decide) hlen) ?_ sz oq
    unfold mAt
    rw [if_pos (by show (h.2 b.toNat).1 < 16; omega)]
    refine ⟨cB, eq'.trans (congrArg some ?_), f2', f3⟩
    rw [← hN]
    refine Eq.trans ?_ (congrArg (vp_cell cB) (mvp_l (show ((h.2 b.toNat).1, (h.2 b.toNat).2.1, fun q => if dp.toNat ≤ q ∧ q < dp.toNat + n.toNat then (h.2 a.toNat).2.2 (sp.toNat + (q - dp.toNat)) else (h.2 b.toNat).2.2 q).1 = 1 from bk)).symm)
    rw [vp_cell_l]
    congr 1
    funext j
    show Value.long (va_cpy _ _ _ _ _ j) = Value.long (Int64.ofInt (if dp.toNat ≤ j ∧ j < dp.toNat + n.toNat then (h.2 a.toNat).2.2 (sp.toNat + (j - dp.toNat)) else (h.2 b.toNat).2.2 j))
    unfold va_cpy
    split <;> rfl
  have SS' := fun (L2 : List Loc) (hL : ∀ q ∈ L2, q.base = mad x s0 b.toNat) => (show va_S (fun q => s0 ≤ q) s.heap (H.setIfInBounds (mad x s0 b.toNat) N) (locs ++ L2) from ⟨by rw [sz]; exact SS.1, fun q g1 g2 => by
    rw [oq q (fun z => g2 (by rw [z, mad_ge b4]; exact Nat.le_add_right _ _))]
    exact SS.2.1 q g1 g2, fun q hq => by
    rcases List.mem_append.mp hq with z | z
    · exact SS.2.2 q z
    · rw [hL q z, mad_ge b4]
      exact Nat.le_add_right _ _⟩)
  obtain ⟨t, a1, b1⟩ := kk D x s0 p l e R s m args below meth c _ _ cells slots MC MS Q ls cx F P' (SS' _ (fun q hq => by
    obtain ⟨z, -, hz⟩ := List.mem_map.mp hq
    rw [← hz])) hl oL oR hc' hs' _ hheap X'
  exact ⟨t, step t a1, b1⟩
end CP

