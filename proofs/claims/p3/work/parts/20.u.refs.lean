/-! arrays of arrays: an element is written; an array of longs is copied whole; a cast that changes nothing -/
theorem m_asgSelf (vm : Vm) (c : ClassId) : vm.assignable c c = true := by
  show vm.assignableAux (255 + 1) c c = true
  rw [Vm.assignableAux]
  simp only [beq_self_eq_true, Bool.true_or]
theorem vp_cell_cls (cA : ClassId) (x : vp_A) : (vp_cell cA x).cls = cA := by
  obtain ⟨n, f | f | f | f | f⟩ := x <;> rfl
theorem vp_cell_vm (cA : ClassId) (x : vp_A) : (vp_cell cA x).vm = .none := by
  obtain ⟨n, f | f | f | f | f⟩ := x <;> rfl
/-- an array class over arrays, and the class of its elements -/
theorem mOver {s : State} {t : FieldType} (h : (Cond.arrayOver (.array t)).before #[] s = true) {cA cB : ClassId} (hA : s.vm.findClass ("[" ++ (FieldType.array t).toString) = some cA) (hB : s.vm.findClass (FieldType.array t).toString = some cB) : ∃ k : Class, s.vm.classes[cA]? = some k ∧ k.kind = .array cB (.array t) := by
  obtain ⟨comp, c, k, h1, -, h3, h4, h5⟩ := arrayOverA_spec h
  cases hA.symm.trans h5
  cases hB.symm.trans h1
  exact ⟨k, h3, h4⟩
section RF
variable {K : mK} {Qr : MO → MH → Prop} {mc ms pc : Nat} {L : List (Nat × MV)} {S S' : List MV} {h : MH}
theorem m_aast (pc' : Nat) (hd : decode K.2.2.1 pc = .ok (.aastore, 1)) (hp : pc + 1 = pc') {kv ka : Nat} (hk : (kv = 0 ∧ ka = 6) ∨ (kv = 1 ∧ ka = 7)) {r i v : Int} (h0 : 0 ≤ r) (h4 : 4 ≤ r.toNat) (hr : r.toNat < h.1) (hkd : (h.2 r.toNat).1 = ka) (v0 : 0 ≤ v) (v4 : 4 ≤ v.toNat) (hv : v.toNat < h.1) (hvk : (h.2 v.toNat).1 = kv) (hi : 0 ≤ i) (hn : i < (h.2 r.toNat).2.1)
    (kk : MW K Qr mc ms pc' L S (hset h r.toNat i.toNat v)) : MW K Qr mc ms pc L ((2, v) :: (0, i) :: (2, r) :: S) h := by
  subst hp
  intro D a s0 p l e R s m args below meth c H locs cells slots MC MS Q ls cx F P SS hl oL oS hc' hs
  have oi := mok_i (mokS_cons.mp (mokS_cons.mp oS).2).1
  have oR := (mokS_cons.mp (mokS_cons.mp (mokS_cons.mp oS).2).2).2
  show W p l e R s m args below meth c H locs cells slots Q (F0 m pc ls (mval (mad a s0) (2, v) :: .int (Int32.ofInt i) :: mval (mad a s0) (2, r) :: mS (mad a s0) S))
  rw [mval_refP _ h0, mval_refP _ v0]
  have hA := P.2.2.2.2.2 r.toNat h4 hr
  have hB := P.2.2.2.2.2 v.toNat v4 hv
  unfold mAt at hA hB
  rw [if_pos (by omega)] at hA hB
  obtain ⟨cA, e1, e2, e3⟩ := hA
  obtain ⟨cB, f1, f2, f3⟩ := hB
  have hkd3 : (h.2 r.toNat).1 = 6 ∨ (h.2 r.toNat).1 = 7 ∨ (h.2 r.toNat).1 = 8 := by omega
  have hNs := cx.2.2.2.2.2.2.2.2.2.2.2.2.2
  obtain ⟨kA, g1, t, g2⟩ : ∃ k : Class, s.vm.classes[cA]? = some k ∧ ∃ t : FieldType, k.kind = .array cB (.array t) := by
    rcases hk with ⟨q1, q2⟩ | ⟨q1, q2⟩
    · rw [hkd, q2] at e3
      rw [hvk, q1] at f3
      obtain ⟨k, z1, z2⟩ := mOver hNs.2.2.2.1 (cA := cA) (cB := cB) e3 f3
      exact ⟨k, z1, _, z2⟩
    · rw [hkd, q2] at e3
      rw [hvk, q1] at f3
      obtain ⟨k, z1, z2⟩ := mOver hNs.2.2.2.2.1 (cA := cA) (cB := cB) e3 f3
      exact ⟨k, z1, _, z2⟩
  obtain ⟨kB, g3⟩ : ∃ k : Class, s.vm.classes[cB]? = some k := by
    have hf : ∃ nm, s.vm.findClass nm = some cB := by
      rcases hk with ⟨q1, -⟩ | ⟨q1, -⟩
      · rw [hvk, q1] at f3; exact ⟨_, f3⟩
      · rw [hvk, q1] at f3; exact ⟨_, f3⟩
    obtain ⟨nm, hf⟩ := hf
    obtain ⟨k, z, -⟩ := Vm.findClass_spec hf
    exact ⟨k, z⟩
  rw [mvp_q hkd3, vp_cell_q] at e1
  refine W.aast cx.1 cx.2.1 e1 (fun q z => by cases z) (fun q => by cases q) g1 g2 rfl g3 (by rw [arrV_size]; exact Classical.byContradiction fun z => mI_in oi hi hn (by
    by_cases z1 : (Int32.ofInt i) < 0
    · exact Or.inl z1
    · exact Or.inr (Nat.le_of_not_lt fun z2 => z ⟨z1, z2⟩))) f1 (fun q z => by rw [vp_cell_vm] at z; cases z) (by rw [vp_cell_cls]; exact g3) (by rw [vp_cell_cls]; exact m_asgSelf _ _) rfl rfl hd fun H' w1 w2 w3 => ?_
  rw [arrV_store, mI_nat oi] at w1
  refine kk D a s0 p l e R s m args below meth c H' _ cells slots MC MS Q ls cx F (P.set h4 hr (mokC_set (k := ka) (P.2.2.2.1 _ hr) hkd (by omega) (by rcases hk with ⟨-, q⟩ | ⟨-, q⟩ <;> (subst q; exact True.intro))) ?_ w2 w3) (SS.put w2 w3 (by rw [mad_ge h4]; exact Nat.le_add_right _ _)) hl oL oR hc' hs
  unfold mAt
  rw [if_pos (by show (h.2 r.toNat).1 < 16; omega)]
  refine ⟨cA, ?_, e2, e3⟩
  refine w1.trans (congrArg some (Eq.trans ?_ (congrArg (vp_cell cA) (mvp_q (c := ((h.2 r.toNat).1, (h.2 r.toNat).2.1, fun i_1 => if i_1 = i.toNat then v else (h.2 r.toNat).2.2 i_1)) hkd3)).symm))
  rw [vp_cell_q]
  congr 1
  funext j
  show updV _ _ _ j = va_rf (mref (mad a s0) (if j = i.toNat then v else (h.2 r.toNat).2.2 j))
  unfold updV
  by_cases z : j = i.toNat
  · rw [if_pos z, if_pos z]
    unfold mref
    rw [if_neg (by omega)]
    rfl
  · rw [if_neg z, if_neg z]
theorem m_castL (pc' : Nat) {idx : Nat} (hd : decode K.2.2.1 pc = .ok (.checkcast idx, 3)) (hp : pc + 3 = pc') (hw : Cond.classLink K.2.1 idx "[J" ∈ mTB) {r : Int} (h0 : 0 ≤ r) (h4 : 4 ≤ r.toNat) (hr : r.toNat < h.1) (hkd : (h.2 r.toNat).1 = 1)
    (kk : MW K Qr mc ms pc' L ((2, r) :: S) h) : MW K Qr mc ms pc L ((2, r) :: S) h := by
  subst hp
  intro D a s0 p l e R s m args below meth c H locs cells slots MC MS Q ls cx F P SS hl oL oS hc' hs
  have hts := cx.2.2.2.2.2.1
  have k2 := kk D a s0 p l e R s m args below meth c H locs cells slots MC MS Q ls cx F P SS hl oL oS hc' hs
  have k2 : W p l e R s m args below meth c H locs cells slots Q (F0 m (pc + 3) ls (mval (mad a s0) (2, r) :: mS (mad a s0) S)) := k2
  show W p l e R s m args below meth c H locs cells slots Q (F0 m pc ls (mval (mad a s0) (2, r) :: mS (mad a s0) S))
  rw [mval_refP _ h0] at k2 ⊢
  have hA := P.2.2.2.2.2 r.toNat h4 hr
  unfold mAt at hA
  rw [if_pos (by omega)] at hA
  obtain ⟨cA, e1, e2, e3⟩ := hA
  rw [hkd] at e3
  have hnm : s.vm.findClass "[J" = some cA := e3
  intro T hT X
  obtain ⟨vm', X', st⟩ := X.checkcastYes cx.1 cx.2.2.2.2.1 (hts _ hw) (by rw [hT]; exact e1) (by rw [vp_cell_vm]; rfl) hnm (by rw [vp_cell_cls]; exact m_asgSelf _ _) (g := F0 m pc ls (.ref (mad a s0 r.toNat) :: mS (mad a s0) S)) rfl rfl (by rw [cx.2.1]; exact hd)
  obtain ⟨t, a1, b1⟩ := k2 (T.setVm vm') hT X'
  exact ⟨t, st t a1, b1⟩
theorem lm_cln1 : Cond.sameMethod "[J" "java/lang/Object" "clone" "()Ljava/lang/Object;" ∈ mTB := mTB_of (sg12 (List.mem_of_getElem? (i := 108) rfl)) rfl
theorem lm_cln2 : Cond.native ⟨"java/lang/Object", "clone", "()Ljava/lang/Object;"⟩ ∈ mTB := mTB_of (sg5 (List.mem_of_getElem? (i := 223) rfl)) rfl
theorem lm_cln3 : Cond.instanceMethod ⟨"java/lang/Object", "clone", "()Ljava/lang/Object;"⟩ ∈ mTB := mTB_of (sg5 (List.mem_of_getElem? (i := 224) rfl)) rfl
theorem lm_cln4 : Cond.selects "[J" ⟨"[J", "clone", "()Ljava/lang/Object;"⟩ ⟨"java/lang/Object", "clone", "()Ljava/lang/Object;"⟩ ∈ mTB := mTB_of (sg12 (List.mem_of_getElem? (i := 109) rfl)) rfl
theorem hcopy_new {h : MH} {a n : Nat} (ha : a < h.1) : hcopy (hnew h (1, n, fun _ => 0)) a h.1 0 0 n = hnew h (1, n, fun q => if 0 ≤ q ∧ q < 0 + n then (h.2 a).2.2 (0 + (q - 0)) else 0) := by
  have e1 : (hnew h (1, n, fun _ => 0)).2 h.1 = (1, n, fun _ => 0) := if_pos rfl
  have e2 : (hnew h (1, n, fun _ => 0)).2 a = h.2 a := if_neg (by omega)
  unfold hcopy
  rw [e1, e2]
  refine Prod.ext rfl (funext fun c => ?_)
  show (if c = h.1 then (1, n, fun q => if 0 ≤ q ∧ q < 0 + n then (h.2 a).2.2 (0 + (q - 0)) else 0) else (hnew h (1, n, fun _ => 0)).2 c : MC) = (if c = h.1 then (1, n, fun q => if 0 ≤ q ∧ q < 0 + n then (h.2 a).2.2 (0 + (q - 0)) else 0) else h.2 c : MC)
  by_cases z : c = h.1
  · rw [if_pos z, if_pos z]
  · rw [if_neg z, if_neg z]
    exact if_neg z
theorem m_cloneL {idx : Nat} (hd : decode K.2.2.1 pc = .ok (.invokevirtual idx, 3)) (hw : Cond.methodLink K.2.1 idx ⟨"[J", "clone", "()Ljava/lang/Object;"⟩ ∈ mTB) (hr : 1 ≤ K.2.2.2.2.2.1 ∧ 26 ≤ K.2.2.2.2.2.2) (hwd : (S.map mcat).sum ≤ 8) {b : Int} (b0 : 0 ≤ b) (b4 : 4 ≤ b.toNat) (bh : b.toNat < h.1) (bk : (h.2 b.toNat).1 = 1) (hmc : 1 ≤ mc) (hms : (h.2 b.toNat).2.1 ≤ ms)
    (kk : MW K Qr (mc - 1) (ms - (h.2 b.toNat).2.1) (pc + 3) L ((2, (h.1 : Int)) :: S) (hcopy (hnew h (1, (h.2 b.toNat).2.1, fun _ => 0)) b.toNat h.1 0 0 (h.2 b.toNat).2.1)) : MW K Qr mc ms pc L ((2, b) :: S) h := by
  intro D x s0 p l e R s m args below meth c H locs cells slots MC MS Q ls cx F P SS hl oL oS hc' hs'
  have hts := cx.2.2.2.2.2.1
  have hNs := cx.2.2.2.2.2.2.2.2.2.2.2.2.2
  have hR1 := cx.2.2.2.2.2.2.2.2.2.1
  have hR2 := cx.2.2.2.2.2.2.2.2.2.2.1
  have oR := (mokS_cons.mp oS).2
  rw [hcopy_new bh] at kk
  show W p l e R s m args below meth c H locs cells slots Q (F0 m pc ls (mval (mad x s0) (2, b) :: mS (mad x s0) S))
  rw [mval_refP _ b0]
  have hA := P.2.2.2.2.2 b.toNat b4 bh
  unfold mAt at hA
  rw [if_pos (by omega)] at hA
  obtain ⟨cA, e1, e2, e3⟩ := hA
  rw [mvp_l bk, vp_cell_l] at e1
  rw [bk] at e2 e3
  have hnm : s.vm.findClass "[J" = some cA := e3
  obtain ⟨c0, t0', f1, f2, f3⟩ := Cond.castable_spec (va_Nw.use (A := args) rfl hNs.2.2.1)
  cases hnm.symm.trans f1
  intro T hT X
  obtain ⟨-, kA, hkA, comp, hkind⟩ := State.isArrayOf_alike X.warmed.alike (e2 0 (fun _ => .null))
  obtain ⟨-, kS, hkS, compS, hkindS⟩ := e2 0 (fun _ => .null)
  obtain ⟨vm', X', st⟩ := X.cloneArray cx.1 cx.2.2.2.2.1 (hts _ hw) (hts _ lm_cln1) (hts _ lm_cln2) (hts _ lm_cln3) (hts _ lm_cln4) (a := mad x s0 b.toNat) (cell := arrV cA (h.2 b.toNat).2.1 (fun j => .long (Int64.ofInt ((h.2 b.toNat).2.2 j)))) (by rw [hT]; exact e1) (fun k h => by cases h) (fun h => by cases h) hnm f2 f3
    (fun i v hv => by
      have hk' : T.vm.classes[cA]? = some kA := hkA
      have hlt : i < (h.2 b.toNat).2.1 := by
        have := (Array.getElem?_eq_some_iff.mp hv).1
        rw [arrV_size] at this
        exact this
      rw [arrV_read _ _ hlt] at hv
      cases hv
      have hf : fits (mty 1) (.long (Int64.ofInt ((h.2 b.toNat).2.2 i))) = true := rfl
      simpa [State.fitsSlot, State.slotType?, hk', hkind, arrV] using hf)
    (g := F0 m pc ls (.ref (mad x s0 b.toNat) :: mS (mad x s0) S)) rfl (by rw [cx.2.2.1]; exact hl.1) rfl (by rw [cx.2.1]; exact hd) (by have := cx.2.2.2.2.2.2.2.1; omega) (by
      rw [mS_cat]
      have := cx.2.2.2.2.2.2.2.2.1
      show 2 * 0 + _ + 14 ≤ _
      omega) (by omega) (by rw [arrV_size]; omega) (hloader := Vm.clonesLoader_of_array hkS hkindS)
  rw [arrV_size] at X'
  have hcE : ({ cls := (arrV cA (h.2 b.toNat).2.1 (fun j => .long (Int64.ofInt ((h.2 b.toNat).2.2 j)))).cls, slots := (arrV cA (h.2 b.toNat).2.1 (fun j => .long (Int64.ofInt ((h.2 b.toNat).2.2 j)))).slots } : Cell) = arrV cA (h.2 b.toNat).2.1 (fun j => .long (Int64.ofInt ((h.2 b.toNat).2.2 j))) := rfl
  rw [hcE] at X' st
  generalize hN : arrV cA (h.2 b.toNat).2.1 (fun j => .long (Int64.ofInt ((h.2 b.toNat).2.2 j))) = N at X' st
  have z1 : (H.push N).size = H.size + 1 := Array.size_push ..
  have e4 : (H.push N)[H.size]? = some N := by rw [Array.getElem?_push_size]
  have o1 : ∀ q : Nat, q < H.size → (H.push N)[q]? = H[q]? := fun q hq => by rw [Array.getElem?_push, if_neg (Nat.ne_of_lt hq)]
  have ok0 := P.2.2.2.1 _ bh
  unfold mokC at ok0
  rw [if_pos (by omega), bk] at ok0
  have P' : mRep D x s0 s (H.push N) (hnew h (1, (h.2 b.toNat).2.1, fun q => if 0 ≤ q ∧ q < 0 + (h.2 b.toNat).2.1 then (h.2 b.toNat).2.2 (0 + (q - 0)) else 0)) := by
    refine P.new ?_ ?_ z1 o1
    · unfold mokC
      rw [if_pos (by show 1 < 16; decide)]
      intro j hj
      have hj : j < (h.2 b.toNat).2.1 := hj
      show mokE 1 (if 0 ≤ j ∧ j < 0 + (h.2 b.toNat).2.1 then (h.2 b.toNat).2.2 (0 + (j - 0)) else 0)
      rw [if_pos (by omega), Nat.zero_add, Nat.sub_zero]
      exact ok0 j hj
    · unfold mAt
      rw [if_pos (by show 1 < 16; decide)]
      refine ⟨cA, ?_, e2, e3⟩
      rw [e4, ← hN]
      refine congrArg some ?_
      show _ = arrV cA (h.2 b.toNat).2.1 (fun j => .long (Int64.ofInt (if 0 ≤ j ∧ j < 0 + (h.2 b.toNat).2.1 then (h.2 b.toNat).2.2 (0 + (j - 0)) else 0)))
      unfold arrV
      congr 1
      congr 1
      funext j
      show Value.long (Int64.ofInt ((h.2 b.toNat).2.2 j.val)) = Value.long (Int64.ofInt (if 0 ≤ j.val ∧ j.val < 0 + (h.2 b.toNat).2.1 then (h.2 b.toNat).2.2 (0 + (j.val - 0)) else 0))
      rw [if_pos ⟨Nat.zero_le _, by have := j.isLt; omega⟩, Nat.zero_add, Nat.sub_zero]
  have hheap : ((T.setVm vm').pushCell N).heap = H.push N := by rw [← hT]; rfl
  have k2 := kk D x s0 p l e R s m args below meth c (H.push N) locs (cells + 1) (slots + (h.2 b.toNat).2.1) MC MS Q ls cx F P' (SS.grow (by omega) o1) hl oL (mokS_cons.mpr ⟨trivial, oR⟩) (by omega) (by omega)
  have k2 : W p l e R s m args below meth c (H.push N) locs (cells + 1) (slots + (h.2 b.toNat).2.1) Q (F0 m (pc + 3) ls (mval (mad x s0) (2, (h.1 : Int)) :: mS (mad x s0) S)) := k2
  rw [mval_refP _ (by omega), Int.toNat_natCast, ← P.size] at k2
  obtain ⟨t, a1, b1⟩ := k2 _ hheap X'
  refine ⟨t, st t ?_, b1⟩
  rw [hT]
  exact a1
end RF
