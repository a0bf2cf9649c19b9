/-! rules: rows of rows, rows of things -/
theorem vr_outer (c : ClassId) (N h0 : Nat) : ∀ i : Nat, Jvm.Free.Multi.outerC c N h0 i = arrV c N (fun j => va_rf (if j < i then some (h0 + 1 + j) else none))
  | 0 => by
    show ({ cls := c, slots := Array.replicate N .null, vm := .none } : Cell) = _
    rw [arrV_new]
    refine congrArg (arrV c N) (funext fun j => ?_)
    simp [va_rf]
  | i + 1 => by
    show (Jvm.Free.Multi.outerC c N h0 i).setSlot i (.ref (h0 + 1 + i)) = _
    rw [vr_outer c N h0 i, arrV_store]
    refine congrArg (arrV c N) (funext fun j => ?_)
    by_cases e : j = i
    · subst e
      simp [updV, va_rf]
    · by_cases h : j < i
      · simp [updV, e, h, Nat.lt_succ_of_lt h]
      · simp [updV, e, h, show ¬ j < i + 1 by omega]
theorem mRep.grow {D : va_G} {x : Nat → Nat} {s0 : Nat} {s : State} {H H' : Heap} {h h' : MH} {k : Nat} (P : mRep D x s0 s H h) (hk : h'.1 = h.1 + k) (hold : ∀ b, b < h.1 → h'.2 b = h.2 b) (hnw : ∀ b, h.1 ≤ b → b < h.1 + k → mokC (h'.2 b) ∧ mAt D (mad x s0) s H' (mad x s0 b) (h'.2 b)) (hz : H'.size = H.size + k) (ho : ∀ q : Nat, q < H.size → H'[q]? = H[q]?) : mRep D x s0 s H' h' := by
  obtain ⟨p1, p2, p3, p4, p5, p6⟩ := id P
  refine ⟨by omega, by omega, p3, fun b hb => ?_, fun j hj => ?_, fun b h4 hb => ?_⟩
  · by_cases z : b < h.1
    · rw [hold b z]; exact p4 b z
    · exact (hnw b (by omega) (by omega)).1
  · rw [hold j (by omega)]
    exact (p5 j hj).kept fun q hq _ => ho q hq
  · by_cases z : b < h.1
    · rw [hold b z]
      exact (p6 b h4 z).kept (ho _ (P.lt h4 z))
    · exact (hnw b (by omega) (by omega)).2
/-- n rows of k numbers and the row of them -/
def hmna (h : MH) (ok ik n k : Nat) : MH := (h.1 + (1 + n), fun b => if b < h.1 then h.2 b else if b = h.1 then (ok, n, fun i => if i < n then (h.1 + 1 + i : Nat) else (-1 : Int)) else (ik, k, fun _ => 0))
section MQ1
variable {K : mK} {Qr : MO → MH → Prop} {mc ms pc : Nat} {L : List (Nat × MV)} {S S' : List MV} {h : MH}
/-- an element of a row of rows, or of things -/
theorem m_aald (pc' : Nat) (hd : decode K.2.2.1 pc = .ok (.aaload, 1)) (hp : pc + 1 = pc') {r i : Int} (h0 : 0 ≤ r) (hr : r.toNat < h.1) (hkd : (h.2 r.toNat).1 = 6 ∨ (h.2 r.toNat).1 = 7 ∨ (h.2 r.toNat).1 = 8) (hi : 0 ≤ i) (hn : i < (h.2 r.toNat).2.1)
    (kk : ∀ v : Int, v = (h.2 r.toNat).2.2 i.toNat → MW K Qr mc ms pc' L ((2, v) :: S) h) : MW K Qr mc ms pc L ((0, i) :: (2, r) :: S) h := by
  subst hp
  intro D a s0 p l e R s m args below meth c H locs cells slots MC MS Q ls cx F P SS hl oL oS hc' hs
  have oi := mok_i (mokS_cons.mp oS).1
  have k2 := kk _ rfl D a s0 p l e R s m args below meth c H locs cells slots MC MS Q ls cx F P SS hl oL (mokS_cons.mpr ⟨trivial, (mokS_cons.mp (mokS_cons.mp oS).2).2⟩) hc' hs
  show W p l e R s m args below meth c H locs cells slots Q (F0 m pc ls (.int (Int32.ofInt i) :: mval (mad a s0) (2, r) :: mS (mad a s0) S))
  rw [mval_refP _ h0]
  have h4 : 4 ≤ r.toNat := P.ge4 (by omega)
  have hA := P.2.2.2.2.2 r.toNat h4 hr
  unfold mAt at hA
  rw [if_pos (by omega)] at hA
  obtain ⟨cA, e1, e2, e3⟩ := hA
  rw [mvp_q hkd, vp_cell_q] at e1
  have hty : (mty (h.2 r.toNat).1).isReference = true := by rcases hkd with e | e | e <;> (rw [e]; rfl)
  refine W.aald (v := va_rf (mref (mad a s0) ((h.2 r.toNat).2.2 i.toNat))) cx.1 cx.2.1 e1 (e2 (h.2 r.toNat).2.1 _) hty (fun q => by cases q) (by rw [arrV_size]; exact mI_in oi hi hn) (by rw [mI_nat oi, arrV_read _ _ (by omega)]) rfl rfl hd ?_
  have k2 : W p l e R s m args below meth c H locs cells slots Q (F0 m (pc + 1) ls (mval (mad a s0) (2, (h.2 r.toNat).2.2 i.toNat) :: mS (mad a s0) S)) := k2
  rw [mval_ref] at k2
  exact k2
theorem m_anewBig (pc' : Nat) {idx : Nat} (hd : decode K.2.2.1 pc = .ok (.anewarray idx, 3)) (hp : pc + 3 = pc') (hw : Cond.classLink K.2.1 idx "RoadHouse$Big" ∈ mTB) {n : Int} (hn : 0 ≤ n) (hn2 : n ≤ 10000000) (hmc : 1 ≤ mc) (hms : n ≤ ms)
    (kk : MW K Qr (mc - 1) (ms - n.toNat) pc' L ((2, (h.1 : Int)) :: S) (hnew h (8, n.toNat, fun _ => -1))) : MW K Qr mc ms pc L ((0, n) :: S) h := by
  subst hp
  intro D a s0 p l e R s m args below meth c H locs cells slots MC MS Q ls cx F P SS hl oL oS hc' hs
  have hts := cx.2.2.2.2.2.1
  have hR1 := cx.2.2.2.2.2.2.2.2.2.1
  have hR2 := cx.2.2.2.2.2.2.2.2.2.2.1
  have on := mok_i (mokS_cons.mp oS).1
  have hov : (Cond.arrayOver (.object "RoadHouse$Big")).before args s = true := cx.2.2.2.2.2.2.2.2.2.2.2.2.2.2.2.2.2.2
  have hnn := mI_nat on
  refine W.anew cx.1 cx.2.1 cx.2.2.2.2.1 (hts _ hw) hov rfl hd rfl (fun q => by have := (mI_lt0 on).mp q; omega) (by show (Int32.ofInt n).toNatClampNeg * 4 ≤ 536870912; omega) (by omega) (by show slots + (Int32.ofInt n).toNatClampNeg ≤ R.slots; omega) fun cA kA comp f1 f2 f3 f4 => ?_
  generalize hH1 : H.push ({ cls := cA, slots := Array.replicate (Int32.ofInt n).toNatClampNeg .null, vm := .none } : Cell) = H1
  have z1 : H1.size = H.size + 1 := by rw [← hH1, Array.size_push]
  have e1 : H1[H.size]? = some (arrV cA n.toNat (fun _ => .null)) := by rw [← hH1, Array.getElem?_push_size, ← arrV_new, hnn]
  have o1 : ∀ q : Nat, q < H.size → H1[q]? = H[q]? := fun q hq => by rw [← hH1, Array.getElem?_push, if_neg (Nat.ne_of_lt hq)]
  have hok : mokC (8, n.toNat, fun _ => -1) := by
    unfold mokC
    rw [if_pos (by show 8 < 16; decide)]
    intro j _
    trivial
  have hAr : ArrOfT s cA (.object "RoadHouse$Big") := fun N9 z9 => ⟨fun q hq => (by cases hq), kA, f2, comp, f3⟩
  have hat : mAt D (mad a s0) s H1 H.size (8, n.toNat, fun _ => -1) := by
    unfold mAt
    rw [if_pos (by show 8 < 16; decide)]
    exact ⟨cA, e1, hAr, ⟨kA, comp, f2, f3, f4, f1⟩⟩
  have P' := P.new hok hat z1 o1
  have k2 := kk D a s0 p l e R s m args below meth c H1 locs (cells + 1) (slots + n.toNat) MC MS Q ls cx F P' (SS.grow (by omega) o1) hl oL (mokS_cons.mpr ⟨trivial, (mokS_cons.mp oS).2⟩) (by omega) (by omega)
  have k2 : W p l e R s m args below meth c H1 locs (cells + 1) (slots + n.toNat) Q (F0 m (pc + 3) ls (mval (mad a s0) (2, (h.1 : Int)) :: mS (mad a s0) S)) := k2
  rw [mval_refP _ (by omega), Int.toNat_natCast, ← P.size] at k2
  rw [hnn]
  exact k2
theorem m_mna (pc' : Nat) {idx ok ik : Nat} {ty : FieldType} (hd : decode K.2.2.1 pc = .ok (.multianewarray idx 2, 4)) (hp : pc + 4 = pc') (hk : (ty = .int ∧ ik = 0 ∧ ok = 6) ∨ (ty = .long ∧ ik = 1 ∧ ok = 7)) (hw : Cond.classLink K.2.1 idx ("[" ++ (FieldType.array ty).toString) ∈ mTB) (hw2 : Cond.arrayClass ty ∈ mTB) {n k : Int} (hn : 0 ≤ n) (hn2 : n ≤ 1000000) (hk1 : 0 ≤ k) (hk2 : k ≤ 1000000) (hmc : 1 + n.toNat ≤ mc) (hms : n.toNat + n.toNat * k.toNat ≤ ms)
    (kk : MW K Qr (mc - (1 + n.toNat)) (ms - (n.toNat + n.toNat * k.toNat)) pc' L ((2, (h.1 : Int)) :: S) (hmna h ok ik n.toNat k.toNat)) : MW K Qr mc ms pc L ((0, k) :: (0, n) :: S) h := by
  subst hp
  intro D a s0 p l e R s m args below meth c H locs cells slots MC MS Q ls cx F P SS hl oL oS hc' hs
  have hts := cx.2.2.2.2.2.1
  have hR1 := cx.2.2.2.2.2.2.2.2.2.1
  have hR2 := cx.2.2.2.2.2.2.2.2.2.2.1
  have ok' := mok_i (mokS_cons.mp oS).1
  have on := mok_i (mokS_cons.mp (mokS_cons.mp oS).2).1
  have oR := (mokS_cons.mp (mokS_cons.mp oS).2).2
  have hov : (Cond.arrayOver (.array ty)).before args s = true := by
    rcases hk with ⟨e, -⟩ | ⟨e, -⟩
    · subst e; exact cx.2.2.2.2.2.2.2.2.2.2.2.2.2.2.2.2.1
    · subst e; exact cx.2.2.2.2.2.2.2.2.2.2.2.2.2.2.2.2.2.1
  have hnn := mI_nat on
  have hkn := mI_nat ok'
  have hcb : componentBytes ty ≤ 8 := by rcases hk with ⟨e, -⟩ | ⟨e, -⟩ <;> (subst e; decide)
  intro T hT Xs
  obtain ⟨vm₁, cA, comp, -, fA, fC, hO, hI, X', step⟩ := Xs.multianewarray2F cx.1 cx.2.2.2.2.1 (hts _ hw) hov (hts _ hw2) (g := F0 m pc ls (.int (Int32.ofInt k) :: .int (Int32.ofInt n) :: mS (mad a s0) S)) rfl (by rw [cx.2.1]; exact hd) rfl (fun q => by have := (mI_lt0 on).mp q; omega) (fun q => by have := (mI_lt0 ok').mp q; omega) (by omega) (Nat.le_trans (Nat.mul_le_mul_left _ hcb) (by omega)) (by omega) (by rcases hk with ⟨e, -⟩ | ⟨e, -⟩ <;> (subst e; rfl)) (by rcases hk with ⟨e, -⟩ | ⟨e, -⟩ <;> (subst e; rfl)) (by rw [hnn]; omega) (by rw [hnn, hkn]; omega)
  rw [hnn, hkn] at X' step
  generalize hF : Jvm.Free.Multi.fill (T.setVm vm₁) cA comp n.toNat k.toNat (defaultValue ty) n.toNat = G at X' step
  have hTh : (T.setVm vm₁).heap = H := hT
  obtain ⟨f1, f2, -, -⟩ := Jvm.Free.Multi.fill_facts (T.setVm vm₁) cA comp n.toNat k.toNat (defaultValue ty) n.toNat
  rw [hF, hTh] at f1 f2
  have hold : ∀ q : Nat, q < H.size → G.heap[q]? = H[q]? := fun q hq => by
    have := Jvm.Free.Multi.fill_old (T.setVm vm₁) cA comp n.toNat k.toNat (defaultValue ty) (a := q) (by rw [hTh]; exact hq) n.toNat
    rw [hF, hTh] at this
    exact this
  have hrow : ∀ j : Nat, j < n.toNat → G.heap[H.size + 1 + j]? = some (Jvm.Free.Multi.innerC comp k.toNat (defaultValue ty)) := fun j hj => by
    have := Jvm.Free.Multi.fill_inner (T.setVm vm₁) cA comp n.toNat k.toNat (defaultValue ty) n.toNat j hj
    rw [hF, hTh] at this
    exact this
  rw [vr_outer] at f2
  have hAr : ArrOfT s cA (.array ty) := fun N9 z9 => by
    obtain ⟨-, k9, hk9, cm9, hkk9⟩ := (hO 0 0 0).1
    exact ⟨(fun q hq => by cases hq), k9, hk9, cm9, hkk9⟩
  have hIr : ArrOfT s comp ty := fun N9 z9 => by
    obtain ⟨-, k9, hk9, cm9, hkk9⟩ := (hI 0 (defaultValue ty)).1
    exact ⟨(fun q hq => by cases hq), k9, hk9, cm9, hkk9⟩
  have hsz := P.size
  have h41 := P.1
  have P' : mRep D a s0 s G.heap (hmna h ok ik n.toNat k.toNat) := by
    refine P.grow rfl (fun b hb => if_pos hb) (fun b hb1 hb2 => ?_) (by rw [f1]; omega) hold
    have hb0 : ¬ b < h.1 := by omega
    show mokC (if b < h.1 then h.2 b else if b = h.1 then _ else _) ∧ mAt D (mad a s0) s G.heap (mad a s0 b) (if b < h.1 then h.2 b else if b = h.1 then _ else _)
    rw [if_neg hb0]
    by_cases e : b = h.1
    · rw [if_pos e]
      refine ⟨?_, ?_⟩
      · unfold mokC
        rw [if_pos (by show ok < 16; omega)]
        intro j _
        show mokE ok _
        rcases hk with ⟨-, -, e⟩ | ⟨-, -, e⟩ <;> (rw [e]; trivial)
      · unfold mAt
        rw [if_pos (by show ok < 16; omega)]
        refine ⟨cA, ?_, ?_, ?_⟩
        · rw [e, ← hsz, f2]
          refine congrArg some ?_
          rw [mvp_q (show ok = 6 ∨ ok = 7 ∨ ok = 8 by omega), vp_cell_q]
          show arrV cA n.toNat _ = arrV cA n.toNat _
          refine congrArg (arrV cA n.toNat) (funext fun j => congrArg va_rf ?_)
          show (if j < n.toNat then some (H.size + 1 + j) else none) = mref (mad a s0) (if j < n.toNat then ((h.1 + 1 + j : Nat) : Int) else -1)
          split
          · unfold mref
            rw [if_neg (by omega), Int.toNat_natCast, mad_ge (by omega), hsz, mad_ge h41]
            congr 1
            omega
          · rfl
        · show ArrOfT s cA (mty ok)
          rcases hk with ⟨e1, -, e2⟩ | ⟨e1, -, e2⟩ <;> (subst e1; rw [e2]; exact hAr)
        · show va_RA s cA (mty ok)
          rcases hk with ⟨e1, -, e2⟩ | ⟨e1, -, e2⟩ <;> (subst e1; rw [e2]; exact fA)
    · rw [if_neg e]
      refine ⟨?_, ?_⟩
      · unfold mokC
        rw [if_pos (by show ik < 16; omega)]
        intro j _
        show mokE ik 0
        rcases hk with ⟨-, e, -⟩ | ⟨-, e, -⟩ <;> (rw [e]; exact ⟨by decide, by decide⟩)
      · unfold mAt
        rw [if_pos (by show ik < 16; omega)]
        refine ⟨comp, ?_, ?_, ?_⟩
        · have e9 : mad a s0 b = H.size + 1 + (b - h.1 - 1) := by
            rw [hsz, mad_ge h41, mad_ge (by omega)]
            omega
          rw [e9, hrow _ (by omega)]
          rcases hk with ⟨e1, e2, -⟩ | ⟨e1, e2, -⟩
          · subst e1; rw [e2]; refine congrArg some ?_
            show Jvm.Free.Multi.innerC comp k.toNat (.int 0) = arrV comp k.toNat (fun _ => .int (Int32.ofInt 0))
            rw [← arrV_new]; rfl
          · subst e1; rw [e2]; refine congrArg some ?_
            show Jvm.Free.Multi.innerC comp k.toNat (.long 0) = arrV comp k.toNat (fun _ => .long (Int64.ofInt 0))
            rw [← arrV_new]; rfl
        · show ArrOfT s comp (mty ik)
          rcases hk with ⟨e1, e2, -⟩ | ⟨e1, e2, -⟩ <;> (subst e1; rw [e2]; exact hIr)
        · show va_RA s comp (mty ik)
          rcases hk with ⟨e1, e2, -⟩ | ⟨e1, e2, -⟩ <;> (subst e1; rw [e2]; exact fC)
  have k2 := kk D a s0 p l e R s m args below meth c G.heap locs (cells + (1 + n.toNat)) (slots + (n.toNat + n.toNat * k.toNat)) MC MS Q ls cx F P' (SS.grow (by rw [f1]; omega) hold) hl oL (mokS_cons.mpr ⟨trivial, oR⟩) (by omega) (by omega)
  have k2 : W p l e R s m args below meth c G.heap locs (cells + (1 + n.toNat)) (slots + (n.toNat + n.toNat * k.toNat)) Q (F0 m (pc + 4) ls (mval (mad a s0) (2, (h.1 : Int)) :: mS (mad a s0) S)) := k2
  rw [mval_refP _ (by omega), Int.toNat_natCast, ← P.size] at k2
  have X'' : Stand p l e R s m args below meth c G locs (cells + (1 + n.toNat)) (slots + (n.toNat + n.toNat * k.toNat)) := by
    rw [← Nat.add_assoc, ← Nat.add_assoc]; exact X'
  obtain ⟨t, a1, b1⟩ := k2 G rfl X''
  refine ⟨t, step t ?_, b1⟩
  have e : T.heap.size = H.size := by rw [hT]
  rw [e]
  exact a1
end MQ1
