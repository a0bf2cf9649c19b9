/-! rules: calls -/
theorem mTB_good {w : Cond} (h : w ∈ mTB) : (w.onTables && w.keeps) = true ∨ ∃ ty, w = .arrayClass ty := good_of_word (List.mem_filter.mp h).2
theorem mTB_in {ws : List Cond} (h : ∀ w ∈ ws, w ∈ mTB) : GoodIn mTB ws := fun w hw => ⟨h w hw, mTB_good (h w hw)⟩
theorem mTB_code {w : Cond} (h : w ∈ mTB) : GoodIn mTB (w :: mTB) := mTB_in fun v hv => (List.mem_cons.mp hv).elim (fun e => e ▸ h) id
theorem mPc_blind {D : va_G} {x : Nat → Nat} {s0 : Nat} {As : List MV} {h : MH} : FrameBlind (mPc D x s0 As h) := fun _ U _ _ q =>
  ⟨q.1, mRep.moved (s := U) (Vm.Alike.refl U.vm) q.2.1, mNs.warm (s := U) (State.WarmedH.refl U) q.2.2⟩
theorem mTB_wsV {own C : String} {idx : Nat} {y : MethodName} {w0 : Cond} (h1 : Cond.methodLink own idx y ∈ mTB) (h2 : Cond.instanceMethod y ∈ mTB) (h3 : Cond.selects C y y ∈ mTB) (h4 : Cond.initialized C ∈ mTB) (h5 : w0 ∈ mTB) : GoodIn mTB (wsV own idx C y (w0 :: mTB)) := mTB_in fun w hw => by
  unfold wsV at hw
  rcases List.mem_append.mp hw with z | z
  · simp only [List.mem_cons, List.not_mem_nil, or_false] at z
    rcases z with rfl | rfl | rfl | rfl
    · exact h1
    · exact h2
    · exact h3
    · exact h4
  · exact (List.mem_cons.mp z).elim (fun q => q ▸ h5) id
theorem mTB_wsS {own : String} {idx : Nat} {y : MethodName} {w0 : Cond} (h1 : Cond.methodLink own idx y ∈ mTB) (h2 : Cond.static y ∈ mTB) (h4 : Cond.initialized own ∈ mTB) (h5 : w0 ∈ mTB) : GoodIn mTB (wsS own idx y (w0 :: mTB)) := mTB_in fun w hw => by
  unfold wsS at hw
  rcases List.mem_append.mp hw with z | z
  · simp only [List.mem_cons, List.not_mem_nil, or_false] at z
    rcases z with rfl | rfl | rfl
    · exact h1
    · exact h2
    · exact h4
  · exact (List.mem_cons.mp z).elim (fun q => q ▸ h5) id
section MC1
variable {K K' : mK} {Qr Qr' : MO → MH → Prop} {mc ms mc' ms' pc idx : Nat} {L : List (Nat × MV)} {ST S As : List MV} {h : MH} {y : MethodName}
/-- the words of a call -/
def mCW (K' : mK) (y : MethodName) : Prop := Cond.code y K'.2.2.1 K'.2.2.2.1 K'.2.2.2.2.1 ∈ mTB ∧ Cond.initialized y.cls ∈ mTB
/-- the callee fits the caller -/
def mFit (K K' : mK) : Prop := K'.2.2.2.2.2.1 + 1 ≤ K.2.2.2.2.2.1 ∧ 8 + (K'.2.2.2.1 + 11) + K'.2.2.2.2.2.2 ≤ K.2.2.2.2.2.2
theorem mS_append (ad : Nat → Nat) (S T : List MV) : mS ad (S ++ T) = mS ad S ++ mS ad T := List.map_append
theorem mS_cat (ad : Nat → Nat) (S : List MV) : ((mS ad S).map fun v => v.category).sum = (S.map mcat).sum := by
  unfold mS
  rw [List.map_map]
  congr 1
  apply List.map_congr_left
  intro v _
  exact mval_cat ad v
theorem mokS_app {S T : List MV} (h : mokS (S ++ T)) : mokS S ∧ mokS T := ⟨fun v hv => h v (List.mem_append_left _ hv), fun v hv => h v (List.mem_append_right _ hv)⟩
theorem m_invokevirtual (hd : decode K.2.2.1 pc = .ok (.invokevirtual idx, 3)) (hk : K.1 ≠ 1 → K'.1 ≠ 1) (hcw : mCW K' y) {ci : Nat} {C : String} {T : u_T} {N : Nat} {r : Int} (hc : mcl[ci]? = some (C, T, N)) (h0 : 0 ≤ r) (hr : r.toNat < h.1) (hkd : (h.2 r.toNat).1 = 16 + ci) (hw : Cond.methodLink K.2.1 idx y ∈ mTB ∧ Cond.instanceMethod y ∈ mTB ∧ Cond.selects y.cls y y ∈ mTB) (hy : (y.cls = C ∧ y.cls ≠ "java/lang/invoke/MethodHandle" ∧ y.cls ≠ "java/lang/invoke/VarHandle" ∧ (parseMethodDescriptor y.desc).map (fun d => d.parameters.length) = some As.length)) (hfit : mFit K K') (hwd : (S.map mcat).sum ≤ 8) (hst : ST = As.reverse ++ (2, r) :: S) (hmc : mc' ≤ mc) (hms : ms' ≤ ms) (hM : MCal K' y mc' ms' ((2, r) :: As) h Qr')
    (kk : ∀ (r : MO) (h' : MH), Qr' r h' → (r.1 = 0 → MW K Qr (mc - mc') (ms - ms') (pc + 3) L S h') ∧ (r.1 = 1 → MW K Qr (mc - mc') (ms - ms') (pc + 3) L (r.2 :: S) h')) : MW K Qr mc ms pc L ST h := by
  subst hst
  intro D a s0 p l e R s m args below meth c H locs cells slots MC MS Q ls cx F P SS hl oL oS hc' hs
  have oA : mokS ((2, r) :: As) := mokS_cons.mpr ⟨trivial, fun v hv => (mokS_app oS).1 v (List.mem_reverse.mpr hv)⟩
  have oR : mokS S := (mokS_cons.mp (mokS_app oS).2).2
  have hts := cx.2.2.2.2.2.1
  have hX : CallFix p m c K.2.2.1 K.2.2.2.1 s args mTB K.2.1 := ⟨cx.1, cx.2.1, cx.2.2.1, cx.2.2.2.2.1, hts⟩
  have hf : cells + mc' ≤ R.cells ∧ slots + ms' ≤ R.slots := ⟨by have := cx.2.2.2.2.2.2.2.2.2.1; omega, by have := cx.2.2.2.2.2.2.2.2.2.2.1; omega⟩
  have hR : K'.2.2.2.2.2.1 + 1 ≤ R.frames ∧ 8 + (K'.2.2.2.1 + 11) + K'.2.2.2.2.2.2 ≤ R.locals := ⟨by have := cx.2.2.2.2.2.2.2.1; have := hfit.1; omega, by have := cx.2.2.2.2.2.2.2.2.1; have := hfit.2; omega⟩
  have hlk := hts _ hw.1
  have hini0 := hts _ hcw.2
  have hwd' : 2 * (F0 m pc ls (mS (mad a s0) (As.reverse ++ (2, r) :: S))).monitorRoom + ((mS (mad a s0) S).map fun v => v.category).sum ≤ 8 := by
    rw [mS_cat]
    show 2 * 0 + _ ≤ 8
    omega
  have hsk : mS (mad a s0) (As.reverse ++ (2, r) :: S) = (As.map (mval (mad a s0))).reverse ++ Value.ref (mad a s0 r.toNat) :: mS (mad a s0) S := by
    rw [mS_append]
    show List.map _ As.reverse ++ mval (mad a s0) (2, r) :: mS (mad a s0) S = _
    rw [mval_refP _ h0, List.map_reverse]
  have hav : (Value.ref (mad a s0 r.toNat) :: As.map (mval (mad a s0))).toArray = (((2, r) :: As).map (mval (mad a s0))).toArray := by
    rw [List.map_cons, mval_refP _ h0]
  have hrec : ∃ cellB : Cell, H[mad a s0 r.toNat]? = some cellB ∧ cellB.vm.isStatics = false ∧ s.vm.findClass C = some cellB.cls := va_recv P.2.2.1 (P.obj hr hkd hc) hc (q0 := 0) rfl
  have hn : (As.map (mval (mad a s0))).length = As.length := List.length_map _
  have hM0 := hM D a s0 l oA
  by_cases hk1 : K'.1 = 1
  · rw [if_pos hk1] at hM0
    have hM2 := hM0
    have _ := hk1
    refine m_after (A := (Value.ref (mad a s0 r.toNat) :: As.map (mval (mad a s0))).toArray) hmc hms cx F SS hl oL oR hc' hs (Or.inr ⟨Decidable.byContradiction fun z => hk z hk1, ?_⟩) kk
    exact va_runV_D (As := As.map (mval (mad a s0))) (rest := mS (mad a s0) S) hX hM2 (cwV As.length hts (mTB_wsV hw.1 hw.2.1 (hy.1 ▸ hw.2.2) (hy.1 ▸ hcw.2) hcw.1) rfl rfl rfl hy hR) ⟨mPc_blind, hrec, fun U hU hW => ⟨hav, by rw [hU]; exact P.moved hW.alike, mNs.warm hW cx.2.2.2.2.2.2.2.2.2.2.2.2.2⟩⟩ rfl hn hl.1 hsk hwd' hd hf
  · rw [if_neg hk1] at hM0
    have hM2 := hM0
    have _ := hk1
    by_cases z : K.1 = 1
    · refine m_after (A := (Value.ref (mad a s0 r.toNat) :: As.map (mval (mad a s0))).toArray) hmc hms cx F SS hl oL oR hc' hs (Or.inr ⟨z, ?_⟩) kk
      exact (va_runV (As := As.map (mval (mad a s0))) (rest := mS (mad a s0) S) hX hM2 (cwV As.length hts (mTB_wsV hw.1 hw.2.1 (hy.1 ▸ hw.2.2) (hy.1 ▸ hcw.2) hcw.1) rfl rfl rfl hy hR) ⟨mPc_blind, hrec, fun U hU hW => ⟨hav, by rw [hU]; exact P.moved hW.alike, mNs.warm hW cx.2.2.2.2.2.2.2.2.2.2.2.2.2⟩⟩ rfl hn hl.1 hsk hwd' hd hf).toD
    · refine m_after (A := (Value.ref (mad a s0 r.toNat) :: As.map (mval (mad a s0))).toArray) hmc hms cx F SS hl oL oR hc' hs (Or.inl ⟨z, ?_⟩) kk
      exact va_runV (As := As.map (mval (mad a s0))) (rest := mS (mad a s0) S) hX hM2 (cwV As.length hts (mTB_wsV hw.1 hw.2.1 (hy.1 ▸ hw.2.2) (hy.1 ▸ hcw.2) hcw.1) rfl rfl rfl hy hR) ⟨mPc_blind, hrec, fun U hU hW => ⟨hav, by rw [hU]; exact P.moved hW.alike, mNs.warm hW cx.2.2.2.2.2.2.2.2.2.2.2.2.2⟩⟩ rfl hn hl.1 hsk hwd' hd hf
theorem m_invokestatic (hd : decode K.2.2.1 pc = .ok (.invokestatic idx, 3)) (hk : K.1 ≠ 1 → K'.1 ≠ 1) (hcw : mCW K' y) (hw : Cond.methodLink K.2.1 idx y ∈ mTB ∧ Cond.static y ∈ mTB) (hy : (y.cls = K.2.1 ∧ y.cls ≠ "java/lang/invoke/MethodHandle" ∧ y.cls ≠ "java/lang/invoke/VarHandle" ∧ (parseMethodDescriptor y.desc).map (fun d => d.parameters.length) = some As.length)) (hfit : mFit K K') (hwd : (S.map mcat).sum ≤ 8) (hst : ST = As.reverse ++ S) (hmc : mc' ≤ mc) (hms : ms' ≤ ms) (hM : MCal K' y mc' ms' As h Qr')
    (kk : ∀ (r : MO) (h' : MH), Qr' r h' → (r.1 = 0 → MW K Qr (mc - mc') (ms - ms') (pc + 3) L S h') ∧ (r.1 = 1 → MW K Qr (mc - mc') (ms - ms') (pc + 3) L (r.2 :: S) h')) : MW K Qr mc ms pc L ST h := by
  subst hst
  intro D a s0 p l e R s m args below meth c H locs cells slots MC MS Q ls cx F P SS hl oL oS hc' hs
  have oA : mokS As := fun v hv => (mokS_app oS).1 v (List.mem_reverse.mpr hv)
  have oR : mokS S := (mokS_app oS).2
  have hts := cx.2.2.2.2.2.1
  have hX : CallFix p m c K.2.2.1 K.2.2.2.1 s args mTB K.2.1 := ⟨cx.1, cx.2.1, cx.2.2.1, cx.2.2.2.2.1, hts⟩
  have hf : cells + mc' ≤ R.cells ∧ slots + ms' ≤ R.slots := ⟨by have := cx.2.2.2.2.2.2.2.2.2.1; omega, by have := cx.2.2.2.2.2.2.2.2.2.2.1; omega⟩
  have hR : K'.2.2.2.2.2.1 + 1 ≤ R.frames ∧ 8 + (K'.2.2.2.1 + 11) + K'.2.2.2.2.2.2 ≤ R.locals := ⟨by have := cx.2.2.2.2.2.2.2.1; have := hfit.1; omega, by have := cx.2.2.2.2.2.2.2.2.1; have := hfit.2; omega⟩
  have hlk := hts _ hw.1
  have hini0 := hts _ hcw.2
  have hwd' : 2 * (F0 m pc ls (mS (mad a s0) (As.reverse ++ S))).monitorRoom + ((mS (mad a s0) S).map fun v => v.category).sum ≤ 8 := by
    rw [mS_cat]
    show 2 * 0 + _ ≤ 8
    omega
  have hsk : mS (mad a s0) (As.reverse ++ S) = (As.map (mval (mad a s0))).reverse ++ mS (mad a s0) S := by
    rw [mS_append]
    show List.map _ As.reverse ++ mS (mad a s0) S = _
    rw [List.map_reverse]
  have hav : (As.map (mval (mad a s0))).toArray = (As.map (mval (mad a s0))).toArray := rfl
  have hn : (As.map (mval (mad a s0))).length = As.length := List.length_map _
  have hM0 := hM D a s0 l oA
  by_cases hk1 : K'.1 = 1
  · rw [if_pos hk1] at hM0
    have hM2 := hM0
    have _ := hk1
    refine m_after (A := (As.map (mval (mad a s0))).toArray) hmc hms cx F SS hl oL oR hc' hs (Or.inr ⟨Decidable.byContradiction fun z => hk z hk1, ?_⟩) kk
    exact va_runS_D (As := As.map (mval (mad a s0))) (rest := mS (mad a s0) S) hX hM2 (cwS As.length hts (mTB_wsS hw.1 hw.2 (hy.1 ▸ hcw.2) hcw.1) rfl rfl rfl hy hR) ⟨mPc_blind, fun U hU hW => ⟨hav, by rw [hU]; exact P.moved hW.alike, mNs.warm hW cx.2.2.2.2.2.2.2.2.2.2.2.2.2⟩⟩ rfl hn hl.1 hsk hwd' hd hf
  · rw [if_neg hk1] at hM0
    have hM2 := hM0
    have _ := hk1
    by_cases z : K.1 = 1
    · refine m_after (A := (As.map (mval (mad a s0))).toArray) hmc hms cx F SS hl oL oR hc' hs (Or.inr ⟨z, ?_⟩) kk
      exact (va_runS (As := As.map (mval (mad a s0))) (rest := mS (mad a s0) S) hX hM2 (cwS As.length hts (mTB_wsS hw.1 hw.2 (hy.1 ▸ hcw.2) hcw.1) rfl rfl rfl hy hR) ⟨mPc_blind, fun U hU hW => ⟨hav, by rw [hU]; exact P.moved hW.alike, mNs.warm hW cx.2.2.2.2.2.2.2.2.2.2.2.2.2⟩⟩ rfl hn hl.1 hsk hwd' hd hf).toD
    · refine m_after (A := (As.map (mval (mad a s0))).toArray) hmc hms cx F SS hl oL oR hc' hs (Or.inl ⟨z, ?_⟩) kk
      exact va_runS (As := As.map (mval (mad a s0))) (rest := mS (mad a s0) S) hX hM2 (cwS As.length hts (mTB_wsS hw.1 hw.2 (hy.1 ▸ hcw.2) hcw.1) rfl rfl rfl hy hR) ⟨mPc_blind, fun U hU hW => ⟨hav, by rw [hU]; exact P.moved hW.alike, mNs.warm hW cx.2.2.2.2.2.2.2.2.2.2.2.2.2⟩⟩ rfl hn hl.1 hsk hwd' hd hf
theorem m_invokespecial (hd : decode K.2.2.1 pc = .ok (.invokespecial idx, 3)) (hk : K.1 ≠ 1 → K'.1 ≠ 1) (hcw : mCW K' y) {ci : Nat} {C : String} {T : u_T} {N : Nat} {r : Int} (hc : mcl[ci]? = some (C, T, N)) (h0 : 0 ≤ r) (hr : r.toNat < h.1) (hkd : (h.2 r.toNat).1 = 16 + ci) (hw : Cond.methodLink K.2.1 idx y ∈ mTB ∧ Cond.instanceMethod y ∈ mTB) (hini : y.name = "<init>") (hy : (True ∧ y.cls ≠ "java/lang/invoke/MethodHandle" ∧ y.cls ≠ "java/lang/invoke/VarHandle" ∧ (parseMethodDescriptor y.desc).map (fun d => d.parameters.length) = some As.length)) (hrt : K'.2.2.2.2.1 = none) (hfit : mFit K K') (hwd : (S.map mcat).sum ≤ 8) (hst : ST = As.reverse ++ (2, r) :: S) (hmc : mc' ≤ mc) (hms : ms' ≤ ms) (hM : MCal K' y mc' ms' ((2, r) :: As) h Qr')
    (kk : ∀ (r : MO) (h' : MH), Qr' r h' → (r.1 = 0 → MW K Qr (mc - mc') (ms - ms') (pc + 3) L S h') ∧ (r.1 = 1 → MW K Qr (mc - mc') (ms - ms') (pc + 3) L (r.2 :: S) h')) : MW K Qr mc ms pc L ST h := by
  subst hst
  intro D a s0 p l e R s m args below meth c H locs cells slots MC MS Q ls cx F P SS hl oL oS hc' hs
  have oA : mokS ((2, r) :: As) := mokS_cons.mpr ⟨trivial, fun v hv => (mokS_app oS).1 v (List.mem_reverse.mpr hv)⟩
  have oR : mokS S := (mokS_cons.mp (mokS_app oS).2).2
  have hts := cx.2.2.2.2.2.1
  have hX : CallFix p m c K.2.2.1 K.2.2.2.1 s args mTB K.2.1 := ⟨cx.1, cx.2.1, cx.2.2.1, cx.2.2.2.2.1, hts⟩
  have hf : cells + mc' ≤ R.cells ∧ slots + ms' ≤ R.slots := ⟨by have := cx.2.2.2.2.2.2.2.2.2.1; omega, by have := cx.2.2.2.2.2.2.2.2.2.2.1; omega⟩
  have hR : K'.2.2.2.2.2.1 + 1 ≤ R.frames ∧ 8 + (K'.2.2.2.1 + 11) + K'.2.2.2.2.2.2 ≤ R.locals := ⟨by have := cx.2.2.2.2.2.2.2.1; have := hfit.1; omega, by have := cx.2.2.2.2.2.2.2.2.1; have := hfit.2; omega⟩
  have hlk := hts _ hw.1
  have hini0 := hts _ hcw.2
  have hwd' : 2 * (F0 m pc ls (mS (mad a s0) (As.reverse ++ (2, r) :: S))).monitorRoom + ((mS (mad a s0) S).map fun v => v.category).sum ≤ 8 := by
    rw [mS_cat]
    show 2 * 0 + _ ≤ 8
    omega
  have hsk : mS (mad a s0) (As.reverse ++ (2, r) :: S) = (As.map (mval (mad a s0))).reverse ++ Value.ref (mad a s0 r.toNat) :: mS (mad a s0) S := by
    rw [mS_append]
    show List.map _ As.reverse ++ mval (mad a s0) (2, r) :: mS (mad a s0) S = _
    rw [mval_refP _ h0, List.map_reverse]
  have hav : (Value.ref (mad a s0 r.toNat) :: As.map (mval (mad a s0))).toArray = (((2, r) :: As).map (mval (mad a s0))).toArray := by
    rw [List.map_cons, mval_refP _ h0]
  have hcw' : Cond.code y K'.2.2.1 K'.2.2.2.1 none ∈ mTB := by have := hcw.1; rw [hrt] at this; exact this
  have hn : (As.map (mval (mad a s0))).length = As.length := List.length_map _
  have hM0 := hM D a s0 l oA
  by_cases hk1 : K'.1 = 1
  · rw [if_pos hk1] at hM0
    have hM2 := hM0
    rw [hrt] at hM2; 
    refine m_after (A := (Value.ref (mad a s0 r.toNat) :: As.map (mval (mad a s0))).toArray) hmc hms cx F SS hl oL oR hc' hs (Or.inr ⟨Decidable.byContradiction fun z => hk z hk1, ?_⟩) kk
    exact va_runI_D (As := As.map (mval (mad a s0))) (rest := mS (mad a s0) S) hX hM2 (cwI As.length hts (mTB_code hcw') rfl rfl rfl hini0 hlk (hts _ hw.2) hini hy.2 hR) ⟨mPc_blind, fun U hU hW => ⟨hav, by rw [hU]; exact P.moved hW.alike, mNs.warm hW cx.2.2.2.2.2.2.2.2.2.2.2.2.2⟩⟩ rfl hn hl.1 hsk hwd' hd hf
  · rw [if_neg hk1] at hM0
    have hM2 := hM0
    rw [hrt] at hM2; 
    by_cases z : K.1 = 1
    · refine m_after (A := (Value.ref (mad a s0 r.toNat) :: As.map (mval (mad a s0))).toArray) hmc hms cx F SS hl oL oR hc' hs (Or.inr ⟨z, ?_⟩) kk
      exact (va_runI (As := As.map (mval (mad a s0))) (rest := mS (mad a s0) S) hX hM2 (cwI As.length hts (mTB_code hcw') rfl rfl rfl hini0 hlk (hts _ hw.2) hini hy.2 hR) ⟨mPc_blind, fun U hU hW => ⟨hav, by rw [hU]; exact P.moved hW.alike, mNs.warm hW cx.2.2.2.2.2.2.2.2.2.2.2.2.2⟩⟩ rfl hn hl.1 hsk hwd' hd hf).toD
    · refine m_after (A := (Value.ref (mad a s0 r.toNat) :: As.map (mval (mad a s0))).toArray) hmc hms cx F SS hl oL oR hc' hs (Or.inl ⟨z, ?_⟩) kk
      exact va_runI (As := As.map (mval (mad a s0))) (rest := mS (mad a s0) S) hX hM2 (cwI As.length hts (mTB_code hcw') rfl rfl rfl hini0 hlk (hts _ hw.2) hini hy.2 hR) ⟨mPc_blind, fun U hU hW => ⟨hav, by rw [hU]; exact P.moved hW.alike, mNs.warm hW cx.2.2.2.2.2.2.2.2.2.2.2.2.2⟩⟩ rfl hn hl.1 hsk hwd' hd hf
theorem m_invokestaticN (hd : decode K.2.2.1 pc = .ok (.invokestatic idx, 3)) (hk : K.1 ≠ 1 → K'.1 ≠ 1) (hcw : mCW K' y) {host : String} (hw : (K.2.1, idx, y, host) ∈ mNL ∧ Cond.static y ∈ mTB) (hy : (True ∧ y.cls ≠ "java/lang/invoke/MethodHandle" ∧ y.cls ≠ "java/lang/invoke/VarHandle" ∧ (parseMethodDescriptor y.desc).map (fun d => d.parameters.length) = some As.length)) (hfit : mFit K K') (hwd : (S.map mcat).sum ≤ 8) (hst : ST = As.reverse ++ S) (hmc : mc' ≤ mc) (hms : ms' ≤ ms) (hM : MCal K' y mc' ms' As h Qr')
    (kk : ∀ (r : MO) (h' : MH), Qr' r h' → (r.1 = 0 → MW K Qr (mc - mc') (ms - ms') (pc + 3) L S h') ∧ (r.1 = 1 → MW K Qr (mc - mc') (ms - ms') (pc + 3) L (r.2 :: S) h')) : MW K Qr mc ms pc L ST h := by
  subst hst
  intro D a s0 p l e R s m args below meth c H locs cells slots MC MS Q ls cx F P SS hl oL oS hc' hs
  have oA : mokS As := fun v hv => (mokS_app oS).1 v (List.mem_reverse.mpr hv)
  have oR : mokS S := (mokS_app oS).2
  have hts := cx.2.2.2.2.2.1
  have hX : CallFix p m c K.2.2.1 K.2.2.2.1 s args mTB K.2.1 := ⟨cx.1, cx.2.1, cx.2.2.1, cx.2.2.2.2.1, hts⟩
  have hf : cells + mc' ≤ R.cells ∧ slots + ms' ≤ R.slots := ⟨by have := cx.2.2.2.2.2.2.2.2.2.1; omega, by have := cx.2.2.2.2.2.2.2.2.2.2.1; omega⟩
  have hR : K'.2.2.2.2.2.1 + 1 ≤ R.frames ∧ 8 + (K'.2.2.2.1 + 11) + K'.2.2.2.2.2.2 ≤ R.locals := ⟨by have := cx.2.2.2.2.2.2.2.1; have := hfit.1; omega, by have := cx.2.2.2.2.2.2.2.2.1; have := hfit.2; omega⟩
  have hlk := cx.2.2.2.2.2.2.2.2.2.2.2.2.2.1 _ hw.1
  have hini0 := hts _ hcw.2
  have hwd' : 2 * (F0 m pc ls (mS (mad a s0) (As.reverse ++ S))).monitorRoom + ((mS (mad a s0) S).map fun v => v.category).sum ≤ 8 := by
    rw [mS_cat]
    show 2 * 0 + _ ≤ 8
    omega
  have hsk : mS (mad a s0) (As.reverse ++ S) = (As.map (mval (mad a s0))).reverse ++ mS (mad a s0) S := by
    rw [mS_append]
    show List.map _ As.reverse ++ mS (mad a s0) S = _
    rw [List.map_reverse]
  have hav : (As.map (mval (mad a s0))).toArray = (As.map (mval (mad a s0))).toArray := rfl
  have hn : (As.map (mval (mad a s0))).length = As.length := List.length_map _
  have hM0 := hM D a s0 l oA
  by_cases hk1 : K'.1 = 1
  · rw [if_pos hk1] at hM0
    have hM2 := hM0
    have _ := hk1
    refine m_after (A := (As.map (mval (mad a s0))).toArray) hmc hms cx F SS hl oL oR hc' hs (Or.inr ⟨Decidable.byContradiction fun z => hk z hk1, ?_⟩) kk
    exact va_runSN_D (As := As.map (mval (mad a s0))) (rest := mS (mad a s0) S) hX hM2 ⟨va_cnB As.length hts (mTB_code hcw.1) rfl rfl rfl hlk hini0 hy.2 hR, hts _ hw.2, trivial⟩ ⟨mPc_blind, fun U hU hW => ⟨hav, by rw [hU]; exact P.moved hW.alike, mNs.warm hW cx.2.2.2.2.2.2.2.2.2.2.2.2.2⟩⟩ rfl hn hl.1 hsk hwd' hd hf
  · rw [if_neg hk1] at hM0
    have hM2 := hM0
    have _ := hk1
    by_cases z : K.1 = 1
    · refine m_after (A := (As.map (mval (mad a s0))).toArray) hmc hms cx F SS hl oL oR hc' hs (Or.inr ⟨z, ?_⟩) kk
      exact (va_runSN (As := As.map (mval (mad a s0))) (rest := mS (mad a s0) S) hX hM2 ⟨va_cnB As.length hts (mTB_code hcw.1) rfl rfl rfl hlk hini0 hy.2 hR, hts _ hw.2, trivial⟩ ⟨mPc_blind, fun U hU hW => ⟨hav, by rw [hU]; exact P.moved hW.alike, mNs.warm hW cx.2.2.2.2.2.2.2.2.2.2.2.2.2⟩⟩ rfl hn hl.1 hsk hwd' hd hf).toD
    · refine m_after (A := (As.map (mval (mad a s0))).toArray) hmc hms cx F SS hl oL oR hc' hs (Or.inl ⟨z, ?_⟩) kk
      exact va_runSN (As := As.map (mval (mad a s0))) (rest := mS (mad a s0) S) hX hM2 ⟨va_cnB As.length hts (mTB_code hcw.1) rfl rfl rfl hlk hini0 hy.2 hR, hts _ hw.2, trivial⟩ ⟨mPc_blind, fun U hU hW => ⟨hav, by rw [hU]; exact P.moved hW.alike, mNs.warm hW cx.2.2.2.2.2.2.2.2.2.2.2.2.2⟩⟩ rfl hn hl.1 hsk hwd' hd hf
theorem m_invokespecialN (hd : decode K.2.2.1 pc = .ok (.invokespecial idx, 3)) (hk : K.1 ≠ 1 → K'.1 ≠ 1) (hcw : mCW K' y) {ci : Nat} {C : String} {T : u_T} {N : Nat} {r : Int} (hc : mcl[ci]? = some (C, T, N)) (h0 : 0 ≤ r) (hr : r.toNat < h.1) (hkd : (h.2 r.toNat).1 = 16 + ci) {host : String} (hw : (K.2.1, idx, y, host) ∈ mNL ∧ Cond.instanceMethod y ∈ mTB) (hini : y.name = "<init>") (hy : (True ∧ y.cls ≠ "java/lang/invoke/MethodHandle" ∧ y.cls ≠ "java/lang/invoke/VarHandle" ∧ (parseMethodDescriptor y.desc).map (fun d => d.parameters.length) = some As.length)) (hrt : K'.2.2.2.2.1 = none) (hfit : mFit K K') (hwd : (S.map mcat).sum ≤ 8) (hst : ST = As.reverse ++ (2, r) :: S) (hmc : mc' ≤ mc) (hms : ms' ≤ ms) (hM : MCal K' y mc' ms' ((2, r) :: As) h Qr')
    (kk : ∀ (r : MO) (h' : MH), Qr' r h' → (r.1 = 0 → MW K Qr (mc - mc') (ms - ms') (pc + 3) L S h') ∧ (r.1 = 1 → MW K Qr (mc - mc') (ms - ms') (pc + 3) L (r.2 :: S) h')) : MW K Qr mc ms pc L ST h := by
  subst hst
  intro D a s0 p l e R s m args below meth c H locs cells slots MC MS Q ls cx F P SS hl oL oS hc' hs
  have oA : mokS ((2, r) :: As) := mokS_cons.mpr ⟨trivial, fun v hv => (mokS_app oS).1 v (List.mem_reverse.mpr hv)⟩
  have oR : mokS S := (mokS_cons.mp (mokS_app oS).2).2
  have hts := cx.2.2.2.2.2.1
  have hX : CallFix p m c K.2.2.1 K.2.2.2.1 s args mTB K.2.1 := ⟨cx.1, cx.2.1, cx.2.2.1, cx.2.2.2.2.1, hts⟩
  have hf : cells + mc' ≤ R.cells ∧ slots + ms' ≤ R.slots := ⟨by have := cx.2.2.2.2.2.2.2.2.2.1; omega, by have := cx.2.2.2.2.2.2.2.2.2.2.1; omega⟩
  have hR : K'.2.2.2.2.2.1 + 1 ≤ R.frames ∧ 8 + (K'.2.2.2.1 + 11) + K'.2.2.2.2.2.2 ≤ R.locals := ⟨by have := cx.2.2.2.2.2.2.2.1; have := hfit.1; omega, by have := cx.2.2.2.2.2.2.2.2.1; have := hfit.2; omega⟩
  have hlk := cx.2.2.2.2.2.2.2.2.2.2.2.2.2.1 _ hw.1
  have hini0 := hts _ hcw.2
  have hwd' : 2 * (F0 m pc ls (mS (mad a s0) (As.reverse ++ (2, r) :: S))).monitorRoom + ((mS (mad a s0) S).map fun v => v.category).sum ≤ 8 := by
    rw [mS_cat]
    show 2 * 0 + _ ≤ 8
    omega
  have hsk : mS (mad a s0) (As.reverse ++ (2, r) :: S) = (As.map (mval (mad a s0))).reverse ++ Value.ref (mad a s0 r.toNat) :: mS (mad a s0) S := by
    rw [mS_append]
    show List.map _ As.reverse ++ mval (mad a s0) (2, r) :: mS (mad a s0) S = _
    rw [mval_refP _ h0, List.map_reverse]
  have hav : (Value.ref (mad a s0 r.toNat) :: As.map (mval (mad a s0))).toArray = (((2, r) :: As).map (mval (mad a s0))).toArray := by
    rw [List.map_cons, mval_refP _ h0]
  have hcw' : Cond.code y K'.2.2.1 K'.2.2.2.1 none ∈ mTB := by have := hcw.1; rw [hrt] at this; exact this
  have hn : (As.map (mval (mad a s0))).length = As.length := List.length_map _
  have hM0 := hM D a s0 l oA
  by_cases hk1 : K'.1 = 1
  · rw [if_pos hk1] at hM0
    have hM2 := hM0
    rw [hrt] at hM2; 
    refine m_after (A := (Value.ref (mad a s0 r.toNat) :: As.map (mval (mad a s0))).toArray) hmc hms cx F SS hl oL oR hc' hs (Or.inr ⟨Decidable.byContradiction fun z => hk z hk1, ?_⟩) kk
    exact va_runIN_D (As := As.map (mval (mad a s0))) (rest := mS (mad a s0) S) hX hM2 ⟨va_cnB As.length hts (mTB_code hcw') rfl rfl rfl hlk hini0 hy.2 hR, hini, hts _ hw.2⟩ ⟨mPc_blind, fun U hU hW => ⟨hav, by rw [hU]; exact P.moved hW.alike, mNs.warm hW cx.2.2.2.2.2.2.2.2.2.2.2.2.2⟩⟩ rfl hn hl.1 hsk hwd' hd hf
  · rw [if_neg hk1] at hM0
    have hM2 := hM0
    rw [hrt] at hM2; 
    by_cases z : K.1 = 1
    · refine m_after (A := (Value.ref (mad a s0 r.toNat) :: As.map (mval (mad a s0))).toArray) hmc hms cx F SS hl oL oR hc' hs (Or.inr ⟨z, ?_⟩) kk
      exact (va_runIN (As := As.map (mval (mad a s0))) (rest := mS (mad a s0) S) hX hM2 ⟨va_cnB As.length hts (mTB_code hcw') rfl rfl rfl hlk hini0 hy.2 hR, hini, hts _ hw.2⟩ ⟨mPc_blind, fun U hU hW => ⟨hav, by rw [hU]; exact P.moved hW.alike, mNs.warm hW cx.2.2.2.2.2.2.2.2.2.2.2.2.2⟩⟩ rfl hn hl.1 hsk hwd' hd hf).toD
    · refine m_after (A := (Value.ref (mad a s0 r.toNat) :: As.map (mval (mad a s0))).toArray) hmc hms cx F SS hl oL oR hc' hs (Or.inl ⟨z, ?_⟩) kk
      exact va_runIN (As := As.map (mval (mad a s0))) (rest := mS (mad a s0) S) hX hM2 ⟨va_cnB As.length hts (mTB_code hcw') rfl rfl rfl hlk hini0 hy.2 hR, hini, hts _ hw.2⟩ ⟨mPc_blind, fun U hU hW => ⟨hav, by rw [hU]; exact P.moved hW.alike, mNs.warm hW cx.2.2.2.2.2.2.2.2.2.2.2.2.2⟩⟩ rfl hn hl.1 hsk hwd' hd hf
end MC1
