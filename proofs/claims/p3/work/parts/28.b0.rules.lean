/-! rules for constructors: the constructor of all objects, rows of references -/
theorem lm_oi1 : Cond.instanceMethod ⟨"java/lang/Object", "<init>", "()V"⟩ ∈ mTB := mTB_of (sg1 (List.mem_of_getElem? (i := 48) rfl)) rfl
theorem lm_oi2 : Cond.code ⟨"java/lang/Object", "<init>", "()V"⟩ ⟨#[0xb1]⟩ 1 none ∈ mTB := mTB_of (sg1 (List.mem_of_getElem? (i := 49) rfl)) rfl
section CR
variable {K : mK} {Qr : MO → MH → Prop} {mc ms pc : Nat} {L : List (Nat × MV)} {S S' : List MV} {h : MH}
theorem m_objInit {idx : Nat} (hd : decode K.2.2.1 pc = .ok (.invokespecial idx, 3)) (hw : Cond.methodLink K.2.1 idx ⟨"java/lang/Object", "<init>", "()V"⟩ ∈ mTB) {r : Int} (h0 : 0 ≤ r) (hf : 1 ≤ K.2.2.2.2.2.1 ∧ 20 ≤ K.2.2.2.2.2.2) (hwd : (S.map mcat).sum ≤ 8)
    (kk : MW K Qr mc ms (pc + 3) L S h) : MW K Qr mc ms pc L ((2, r) :: S) h := by
  intro D a s0 p l e R s m args below meth c H locs cells slots MC MS Q ls cx F P SS hl oL oS hc' hs
  have hts := cx.2.2.2.2.2.1
  have k2 := kk D a s0 p l e R s m args below meth c H locs cells slots MC MS Q ls cx F P SS hl oL (mokS_cons.mp oS).2 hc' hs
  show W p l e R s m args below meth c H locs cells slots Q (F0 m pc ls (mval (mad a s0) (2, r) :: mS (mad a s0) S))
  rw [mval_refP _ h0]
  refine W.objInit cx.1 cx.2.1 cx.2.2.2.2.1 (hts _ hw) (hts _ lm_oi1) (hts _ lm_oi2) (g := F0 m pc ls (.ref (mad a s0 r.toNat) :: mS (mad a s0) S)) rfl (by rw [cx.2.2.1]; exact hl.1) rfl hd (by have := cx.2.2.2.2.2.2.2.1; omega) ?_ k2
  have e1 : ((mS (mad a s0) S).map fun v => v.category).sum = (S.map mcat).sum := mS_cat _ _
  have e2 := cx.2.2.2.2.2.2.2.2.1
  show 2 * 0 + ((mS (mad a s0) S).map fun v => v.category).sum + 12 ≤ R.locals
  omega
theorem m_anewI (pc' : Nat) {idx : Nat} (hd : decode K.2.2.1 pc = .ok (.anewarray idx, 3)) (hp : pc + 3 = pc') (hw : Cond.classLink K.2.1 idx "[I" ∈ mTB) {n : Int} (hn : 0 ≤ n) (hn2 : n ≤ 10000000) (hmc : 1 ≤ mc) (hms : n ≤ ms)
    (kk : MW K Qr (mc - 1) (ms - n.toNat) pc' L ((2, (h.1 : Int)) :: S) (hnew h (6, n.toNat, fun _ => -1))) : MW K Qr mc ms pc L ((0, n) :: S) h := by
  subst hp
  intro D a s0 p l e R s m args below meth c H locs cells slots MC MS Q ls cx F P SS hl oL oS hc' hs
  have hts := cx.2.2.2.2.2.1
  have hR1 := cx.2.2.2.2.2.2.2.2.2.1
  have hR2 := cx.2.2.2.2.2.2.2.2.2.2.1
  have on := mok_i (mokS_cons.mp oS).1
  have hov : (Cond.arrayOver (.array .int)).before args s = true := cx.2.2.2.2.2.2.2.2.2.2.2.2.2.2.2.2.1
  have hnn := mI_nat on
  refine W.anewA (t := .int) cx.1 cx.2.1 cx.2.2.2.2.1 (hts _ hw) hov rfl hd rfl (fun q => by have := (mI_lt0 on).mp q; omega) (by show (Int32.ofInt n).toNatClampNeg * 4 ≤ 536870912; omega) (by omega) (by show slots + (Int32.ofInt n).toNatClampNeg ≤ R.slots; omega) fun cA kA comp f1 f2 f3 f4 => ?_
  generalize hH1 : H.push ({ cls := cA, slots := Array.replicate (Int32.ofInt n).toNatClampNeg .null, vm := .none } : Cell) = H1
  have z1 : H1.size = H.size + 1 := by rw [← hH1, Array.size_push]
  have e1 : H1[H.size]? = some (arrV cA n.toNat (fun _ => .null)) := by rw [← hH1, Array.getElem?_push_size, ← arrV_new, hnn]
  have o1 : ∀ q : Nat, q < H.size → H1[q]? = H[q]? := fun q hq => by rw [← hH1, Array.getElem?_push, if_neg (Nat.ne_of_lt hq)]
  have hok : mokC (6, n.toNat, fun _ => -1) := by
    unfold mokC
    rw [if_pos (by show 6 < 16; decide)]
    intro j _
    trivial
  have hAr : ArrOfT s cA (.array .int) := fun N9 z9 => ⟨fun q hq => (by cases hq), kA, f2, comp, f3⟩
  have hat : mAt D (mad a s0) s H1 H.size (6, n.toNat, fun _ => -1) := by
    unfold mAt
    rw [if_pos (by show 6 < 16; decide)]
    exact ⟨cA, e1, hAr, f1⟩
  have P' := P.new hok hat z1 o1
  have k2 := kk D a s0 p l e R s m args below meth c H1 locs (cells + 1) (slots + n.toNat) MC MS Q ls cx F P' (SS.grow (by omega) o1) hl oL (mokS_cons.mpr ⟨trivial, (mokS_cons.mp oS).2⟩) (by omega) (by omega)
  have k2 : W p l e R s m args below meth c H1 locs (cells + 1) (slots + n.toNat) Q (F0 m (pc + 3) ls (mval (mad a s0) (2, (h.1 : Int)) :: mS (mad a s0) S)) := k2
  rw [mval_refP _ (by omega), Int.toNat_natCast, ← P.size] at k2
  rw [hnn]
  exact k2
theorem m_aastB (pc' : Nat) (hd : decode K.2.2.1 pc = .ok (.aastore, 1)) (hp : pc + 1 = pc') {r i v : Int} (h0 : 0 ≤ r) (h4 : 4 ≤ r.toNat) (hr : r.toNat < h.1) (hkd : (h.2 r.toNat).1 = 8) (v0 : 0 ≤ v) (v4 : 4 ≤ v.toNat) (hv : v.toNat < h.1) (hvk : (h.2 v.toNat).1 = 17) (hi : 0 ≤ i) (hn : i < (h.2 r.toNat).2.1)
    (kk : MW K Qr mc ms pc' L S (hset h r.toNat i.toNat v)) : MW K Qr mc ms pc L ((2, v) :: (0, i) :: (2, r) :: S) h := by
  subst hp
  intro D a s0 p l e R s m args below meth c H locs cells slots MC MS Q ls cx F P SS hl oL oS hc' hs
  have oi := mok_i (mokS_cons.mp (mokS_cons.mp oS).2).1
  have oR := (mokS_cons.mp (mokS_cons.mp (mokS_cons.mp oS).2).2).2
  show W p l e R s m args below meth c H locs cells slots Q (F0 m pc ls (mval (mad a s0) (2, v) :: .int (Int32.ofInt i) :: mval (mad a s0) (2, r) :: mS (mad a s0) S))
  rw [mval_refP _ h0, mval_refP _ v0]
  have hA := P.2.2.2.2.2 r.toNat h4 hr
  have hB := P.2.2.2.2.2 v.toNat v4 hv
  unfold mAt at hA hB
  rw [if_pos (by omega)] at hA
  rw [if_neg (by omega)] at hB
  obtain ⟨cA, e1, e2, e3⟩ := hA
  obtain ⟨rr, hrr, cell, f1, f2, f3, f4⟩ := hB.resolve_left (by omega)
  rw [hkd] at e3
  obtain ⟨kA, comp, g1, g2, g3, g5⟩ := e3
  have hkd3 : (h.2 r.toNat).1 = 6 ∨ (h.2 r.toNat).1 = 7 ∨ (h.2 r.toNat).1 = 8 := by omega
  have hrr : mcl[17 - 16]? = some rr := by rw [← hvk]; exact hrr
  have hKn := (P.2.2.1.1 1 rr hrr).2
  have hcl : s.vm.findClass RX1 = some (D.1 1) := by
    cases hrr
    exact hKn.1
  have hce : cell.cls = comp := by
    rw [f2, hvk]
    have := hcl.symm.trans g3
    exact Option.some.inj this
  obtain ⟨kB, g6, -⟩ := Vm.findClass_spec g3
  rw [mvp_q hkd3, vp_cell_q] at e1
  refine W.aast cx.1 cx.2.1 e1 (fun q z => by cases z) (fun q => by cases q) g1 g2 rfl g6 (by rw [arrV_size]; exact Classical.byContradiction fun z => mI_in oi hi hn (by
    by_cases z1 : (Int32.ofInt i) < 0
    · exact Or.inl z1
    · exact Or.inr (Nat.le_of_not_lt fun z2 => z ⟨z1, z2⟩))) f1 (fun q z => by rw [f3] at z; cases z) (by rw [hce]; exact g6) (by rw [hce]; exact m_asgSelf _ _) rfl rfl hd fun H' w1 w2 w3 => ?_
  rw [arrV_store, mI_nat oi] at w1
  refine kk D a s0 p l e R s m args below meth c H' _ cells slots MC MS Q ls cx F (P.set h4 hr (mokC_set (k := 8) (P.2.2.2.1 _ hr) hkd (by omega) True.intro) ?_ w2 w3) (SS.put w2 w3 (by rw [mad_ge h4]; exact Nat.le_add_right _ _)) hl oL oR hc' hs
  unfold mAt
  rw [if_pos (by show (h.2 r.toNat).1 < 16; omega)]
  refine ⟨cA, ?_, e2, by show va_RA s cA (mty (h.2 r.toNat).1); rw [hkd]; exact ⟨kA, comp, g1, g2, g3, g5⟩⟩
  refine w1.trans (congrArg some (Eq.trans ?_ (congrArg (vp_cell cA) (mvp_q (c := ((h.2 r.toNat).1, (h.2 r.toNat).2.1, fun i_1 => if i_1 = i.toNat then v else (h.2 r.toNat).2.2 i_1)) hkd3)).symm))
  rw [vp_cell_q]
  congr 1
  funext j
  show updV _ _ _ j = va_rf (mref (mad a s0) (if j = i.toNat then v else (h.2 r.toNat).2.2 j))
  unfold updV
  by_cases z : j = i.toNat
  · rw [if_pos z, if_pos z]
    unfold mref
    rw [if_neg (by omega)]
    rfl
  · rw [if_neg z, if_neg z]
end CR
