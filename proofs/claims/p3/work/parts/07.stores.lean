/-! rules: stores -/
section MO2
variable {D : va_G} {x : Nat → Nat} {s0 : Nat} {s : State} {H H' : Heap} {h : MH} {a : Nat}
theorem mad_inj {b : Nat} (ha : 4 ≤ a) (hb : 4 ≤ b) (e : mad x s0 a = mad x s0 b) : a = b := by
  rw [mad_ge ha, mad_ge hb] at e
  omega
theorem mAt.kept {ad : Nat → Nat} {q : Nat} {c : MC} (h : mAt D ad s H q c) (e : H'[q]? = H[q]?) : mAt D ad s H' q c := by
  unfold mAt at h ⊢
  split
  · next hk =>
    rw [if_pos hk] at h
    obtain ⟨cA, h1, h2⟩ := h
    exact ⟨cA, e.trans h1, h2⟩
  · next hk =>
    rw [if_neg hk] at h
    exact h.imp id fun ⟨r, h1, h2⟩ => ⟨r, h1, h2.kept e⟩
theorem va_Z.keptH {C n d : String} {v : Value} {A : Nat → Prop} (h : va_Z C n d v A s H) (e : ∀ q : Nat, q < H.size → ¬ A q → H'[q]? = H[q]?) : va_Z C n d v A s H' := by
  obtain ⟨cf, kf, fi, f, b, cell, h1, h2, h3, h4, h5, h6, h7, h8⟩ := h
  exact ⟨cf, kf, fi, f, b, cell, h1, h2, h3, h4, (e b (Array.getElem?_eq_some_iff.mp h5).1 h8).trans h5, h6, h7, h8⟩
theorem mEx.kept {k : Nat} {c : MC} (h : mEx x s0 s H k c) (e : ∀ q : Nat, q < H.size → q < s0 → H'[q]? = H[q]?) : mEx x s0 s H' k c := by
  obtain ⟨h1, h2, ⟨cell, h3, h4⟩, h5⟩ := h
  refine ⟨h1, h2, ⟨cell, (e _ (Array.getElem?_eq_some_iff.mp h3).1 h1).trans h3, h4⟩, h5.imp id fun z => z.keptH fun q hq hA => e q hq (Nat.lt_of_not_le hA)⟩
/-- one cell is another one now -/
theorem mRep.set (P : mRep D x s0 s H h) (ha : 4 ≤ a) (ha' : a < h.1) {c : MC} (hok : mokC c) (hat : mAt D (mad x s0) s H' (mad x s0 a) c) (hz : H'.size = H.size) (ho : ∀ q, q ≠ mad x s0 a → H'[q]? = H[q]?) : mRep D x s0 s H' (h.1, fun b => if b = a then c else h.2 b) := by
  obtain ⟨p1, p2, p3, p4, p5, p6⟩ := P
  have hq : mad x s0 a = s0 + (a - 4) := mad_ge ha
  refine ⟨p1, by rw [hz]; exact p2, p3, fun b hb => ?_, fun k hk => ?_, fun b h4 hb => ?_⟩
  · show mokC (if b = a then c else h.2 b)
    split
    · exact hok
    · exact p4 b hb
  · show mEx x s0 s H' k (if k = a then c else h.2 k)
    rw [if_neg (by omega)]
    exact (p5 k hk).kept fun q _ hq' => ho q (by omega)
  · show mAt D (mad x s0) s H' (mad x s0 b) (if b = a then c else h.2 b)
    by_cases e : b = a
    · rw [if_pos e, e]
      exact hat
    · rw [if_neg e]
      exact (p6 b h4 hb).kept (ho _ fun z => e (mad_inj h4 ha z))
end MO2
section MS
variable {K : mK} {Qr : MO → MH → Prop} {mc ms pc : Nat} {L : List (Nat × MV)} {S S' : List MV} {h : MH}
theorem mokC_set {h : MH} {a j k : Nat} {z : Int} (ok : mokC (h.2 a)) (hk : (h.2 a).1 = k) (hk16 : k < 16) (hz : mokE k z) : mokC ((h.2 a).1, (h.2 a).2.1, fun i => if i = j then z else (h.2 a).2.2 i) := by
  unfold mokC at ok ⊢
  have hk' : (h.2 a).1 < 16 := by omega
  rw [if_pos hk'] at ok ⊢
  intro i hi
  show mokE (h.2 a).1 (if i = j then z else (h.2 a).2.2 i)
  split
  · rw [hk]; exact hz
  · exact ok i hi
theorem m_narZ {v : Int} (h : 0 ≤ v ∧ v ≤ 1) : narrow .boolean (.int (Int32.ofInt v)) = .int (Int32.ofInt v) := by
  rcases (by omega : v = 0 ∨ v = 1) with e | e <;> (rw [e]; rfl)
theorem m_narB {v : Int} (h : -128 ≤ v ∧ v ≤ 127) : narrow .byte (.int (Int32.ofInt v)) = .int (Int32.ofInt v) := by
  rw [narrow_byte, mI_i2b h.1 h.2]
theorem m_narC {v : Int} (h : 0 ≤ v ∧ v ≤ 65535) : narrow .char (.int (Int32.ofInt v)) = .int (Int32.ofInt v) := by
  have h1 : (Int32.ofInt v).toInt = v := mI_toInt (by omega)
  show Value.int ((Int32.ofInt v).toUInt32.toUInt16.toUInt32.toInt32) = _
  rw [lg_i2c_small (by omega) (by omega)]
theorem m_iast (pc' : Nat) (hd : decode K.2.2.1 pc = .ok (.iastore, 1)) (hp : pc + 1 = pc') {r i v : Int} (h0 : 0 ≤ r) (h4 : 4 ≤ r.toNat) (hr : r.toNat < h.1) (hkd : (h.2 r.toNat).1 = 0) (hi : 0 ≤ i) (hn : i < (h.2 r.toNat).2.1)
    (kk : MW K Qr mc ms pc' L S (hset h r.toNat i.toNat v)) : MW K Qr mc ms pc L ((0, v) :: (0, i) :: (2, r) :: S) h := by
  subst hp
  intro D a s0 p l e R s m args below meth c H locs cells slots MC MS Q ls cx F P SS hl oL oS hc' hs
  have ov : mokE 0 v := mok_i (mokS_cons.mp oS).1
  have oi := mok_i (mokS_cons.mp (mokS_cons.mp oS).2).1
  have oR := (mokS_cons.mp (mokS_cons.mp (mokS_cons.mp oS).2).2).2
  show W p l e R s m args below meth c H locs cells slots Q (F0 m pc ls (.int (Int32.ofInt v) :: .int (Int32.ofInt i) :: mval (mad a s0) (2, r) :: mS (mad a s0) S))
  rw [mval_refP _ h0]
  have hA := P.2.2.2.2.2 r.toNat h4 hr
  unfold mAt at hA
  rw [if_pos (by omega)] at hA
  obtain ⟨cA, e1, e2, e3⟩ := hA
  rw [mvp_i (Or.inl hkd), vp_cell_i] at e1
  refine W.iast cx.1 cx.2.1 e1 (by have := e2 (h.2 r.toNat).2.1 (fun j => .int (Int32.ofInt ((h.2 r.toNat).2.2 j))); rw [hkd] at this; exact this) (fun q => by cases q) (by rw [arrV_size]; exact mI_in oi hi hn) rfl rfl hd fun H' f1 f2 f3 => ?_
  rw [arrV_store, mI_nat oi] at f1
  refine kk D a s0 p l e R s m args below meth c H' _ cells slots MC MS Q ls cx F (P.set h4 hr (mokC_set (P.2.2.2.1 _ hr) hkd (by decide) ov) ?_ f2 f3) (SS.put f2 f3 (by rw [mad_ge h4]; exact Nat.le_add_right _ _)) hl oL oR hc' hs
  unfold mAt
  rw [if_pos (by show (h.2 r.toNat).1 < 16; omega)]
  refine ⟨cA, ?_, e2, e3⟩
  refine f1.trans (congrArg some (Eq.trans ?_ (congrArg (vp_cell cA) (mvp_i (Or.inl (show ((h.2 r.toNat).1, (h.2 r.toNat).2.1, fun i_1 => if i_1 = i.toNat then v else (h.2 r.toNat).2.2 i_1).1 = 0 from hkd))).symm)))
  rw [vp_cell_i]
  congr 1
  funext j
  show updV _ _ _ j = .int (Int32.ofInt (if j = i.toNat then v else (h.2 r.toNat).2.2 j))
  unfold updV
  split <;> rfl
theorem m_last (pc' : Nat) (hd : decode K.2.2.1 pc = .ok (.lastore, 1)) (hp : pc + 1 = pc') {r i v : Int} (h0 : 0 ≤ r) (h4 : 4 ≤ r.toNat) (hr : r.toNat < h.1) (hkd : (h.2 r.toNat).1 = 1) (hi : 0 ≤ i) (hn : i < (h.2 r.toNat).2.1)
    (kk : MW K Qr mc ms pc' L S (hset h r.toNat i.toNat v)) : MW K Qr mc ms pc L ((1, v) :: (0, i) :: (2, r) :: S) h := by
  subst hp
  intro D a s0 p l e R s m args below meth c H locs cells slots MC MS Q ls cx F P SS hl oL oS hc' hs
  have ov : mokE 1 v := mok_l (mokS_cons.mp oS).1
  have oi := mok_i (mokS_cons.mp (mokS_cons.mp oS).2).1
  have oR := (mokS_cons.mp (mokS_cons.mp (mokS_cons.mp oS).2).2).2
  show W p l e R s m args below meth c H locs cells slots Q (F0 m pc ls (.long (Int64.ofInt v) :: .int (Int32.ofInt i) :: mval (mad a s0) (2, r) :: mS (mad a s0) S))
  rw [mval_refP _ h0]
  have hA := P.2.2.2.2.2 r.toNat h4 hr
  unfold mAt at hA
  rw [if_pos (by omega)] at hA
  obtain ⟨cA, e1, e2, e3⟩ := hA
  rw [mvp_l hkd, vp_cell_l] at e1
  refine W.last cx.1 cx.2.1 e1 (by have := e2 (h.2 r.toNat).2.1 (fun j => .long (Int64.ofInt ((h.2 r.toNat).2.2 j))); rw [hkd] at this; exact this) (fun q => by cases q) (by rw [arrV_size]; exact mI_in oi hi hn) rfl rfl hd fun H' f1 f2 f3 => ?_
  rw [arrV_store, mI_nat oi] at f1
  refine kk D a s0 p l e R s m args below meth c H' _ cells slots MC MS Q ls cx F (P.set h4 hr (mokC_set (P.2.2.2.1 _ hr) hkd (by decide) ov) ?_ f2 f3) (SS.put f2 f3 (by rw [mad_ge h4]; exact Nat.le_add_right _ _)) hl oL oR hc' hs
  unfold mAt
  rw [if_pos (by show (h.2 r.toNat).1 < 16; omega)]
  refine ⟨cA, ?_, e2, e3⟩
  refine f1.trans (congrArg some (Eq.trans ?_ (congrArg (vp_cell cA) (mvp_l (show ((h.2 r.toNat).1, (h.2 r.toNat).2.1, fun i_1 => if i_1 = i.toNat then v else (h.2 r.toNat).2.2 i_1).1 = 1 from hkd)).symm)))
  rw [vp_cell_l]
  congr 1
  funext j
  show updV _ _ _ j = .long (Int64.ofInt (if j = i.toNat then v else (h.2 r.toNat).2.2 j))
  unfold updV
  split <;> rfl
theorem m_zast (pc' : Nat) (hd : decode K.2.2.1 pc = .ok (.bastore, 1)) (hp : pc + 1 = pc') {r i v : Int} (h0 : 0 ≤ r) (h4 : 4 ≤ r.toNat) (hr : r.toNat < h.1) (hkd : (h.2 r.toNat).1 = 2) (hi : 0 ≤ i) (hn : i < (h.2 r.toNat).2.1) (hv : 0 ≤ v ∧ v ≤ 1)
    (kk : MW K Qr mc ms pc' L S (hset h r.toNat i.toNat v)) : MW K Qr mc ms pc L ((0, v) :: (0, i) :: (2, r) :: S) h := by
  subst hp
  intro D a s0 p l e R s m args below meth c H locs cells slots MC MS Q ls cx F P SS hl oL oS hc' hs
  have ov : mokE 2 v := hv
  have oi := mok_i (mokS_cons.mp (mokS_cons.mp oS).2).1
  have oR := (mokS_cons.mp (mokS_cons.mp (mokS_cons.mp oS).2).2).2
  show W p l e R s m args below meth c H locs cells slots Q (F0 m pc ls (.int (Int32.ofInt v) :: .int (Int32.ofInt i) :: mval (mad a s0) (2, r) :: mS (mad a s0) S))
  rw [mval_refP _ h0]
  have hA := P.2.2.2.2.2 r.toNat h4 hr
  unfold mAt at hA
  rw [if_pos (by omega)] at hA
  obtain ⟨cA, e1, e2, e3⟩ := hA
  rw [mvp_i (Or.inr (Or.inl hkd)), vp_cell_i] at e1
  refine W.zast cx.1 cx.2.1 e1 (by have := e2 (h.2 r.toNat).2.1 (fun j => .int (Int32.ofInt ((h.2 r.toNat).2.2 j))); rw [hkd] at this; exact this) (fun q => by cases q) (by rw [arrV_size]; exact mI_in oi hi hn) rfl rfl hd fun H' f1 f2 f3 => ?_
  rw [m_narZ hv, arrV_store, mI_nat oi] at f1
  refine kk D a s0 p l e R s m args below meth c H' _ cells slots MC MS Q ls cx F (P.set h4 hr (mokC_set (P.2.2.2.1 _ hr) hkd (by decide) ov) ?_ f2 f3) (SS.put f2 f3 (by rw [mad_ge h4]; exact Nat.le_add_right _ _)) hl oL oR hc' hs
  unfold mAt
  rw [if_pos (by show (h.2 r.toNat).1 < 16; omega)]
  refine ⟨cA, ?_, e2, e3⟩
  refine f1.trans (congrArg some (Eq.trans ?_ (congrArg (vp_cell cA) (mvp_i (Or.inr (Or.inl (show ((h.2 r.toNat).1, (h.2 r.toNat).2.1, fun i_1 => if i_1 = i.toNat then v else (h.2 r.toNat).2.2 i_1).1 = 2 from hkd)))).symm)))
  rw [vp_cell_i]
  congr 1
  funext j
  show updV _ _ _ j = .int (Int32.ofInt (if j = i.toNat then v else (h.2 r.toNat).2.2 j))
  unfold updV
  split <;> rfl
theorem m_bast (pc' : Nat) (hd : decode K.2.2.1 pc = .ok (.bastore, 1)) (hp : pc + 1 = pc') {r i v : Int} (h0 : 0 ≤ r) (h4 : 4 ≤ r.toNat) (hr : r.toNat < h.1) (hkd : (h.2 r.toNat).1 = 3) (hi : 0 ≤ i) (hn : i < (h.2 r.toNat).2.1) (hv : -128 ≤ v ∧ v ≤ 127)
    (kk : MW K Qr mc ms pc' L S (hset h r.toNat i.toNat v)) : MW K Qr mc ms pc L ((0, v) :: (0, i) :: (2, r) :: S) h := by
  subst hp
  intro D a s0 p l e R s m args below meth c H locs cells slots MC MS Q ls cx F P SS hl oL oS hc' hs
  have ov : mokE 3 v := hv
  have oi := mok_i (mokS_cons.mp (mokS_cons.mp oS).2).1
  have oR := (mokS_cons.mp (mokS_cons.mp (mokS_cons.mp oS).2).2).2
  show W p l e R s m args below meth c H locs cells slots Q (F0 m pc ls (.int (Int32.ofInt v) :: .int (Int32.ofInt i) :: mval (mad a s0) (2, r) :: mS (mad a s0) S))
  rw [mval_refP _ h0]
  have hA := P.2.2.2.2.2 r.toNat h4 hr
  unfold mAt at hA
  rw [if_pos (by omega)] at hA
  obtain ⟨cA, e1, e2, e3⟩ := hA
  rw [mvp_i (Or.inr (Or.inr (Or.inl hkd))), vp_cell_i] at e1
  refine W.bast cx.1 cx.2.1 e1 (by have := e2 (h.2 r.toNat).2.1 (fun j => .int (Int32.ofInt ((h.2 r.toNat).2.2 j))); rw [hkd] at this; exact this) (fun q => by cases q) (by rw [arrV_size]; exact mI_in oi hi hn) rfl rfl hd fun H' f1 f2 f3 => ?_
  rw [m_narB hv, arrV_store, mI_nat oi] at f1
  refine kk D a s0 p l e R s m args below meth c H' _ cells slots MC MS Q ls cx F (P.set h4 hr (mokC_set (P.2.2.2.1 _ hr) hkd (by decide) ov) ?_ f2 f3) (SS.put f2 f3 (by rw [mad_ge h4]; exact Nat.le_add_right _ _)) hl oL oR hc' hs
  unfold mAt
  rw [if_pos (by show (h.2 r.toNat).1 < 16; omega)]
  refine ⟨cA, ?_, e2, e3⟩
  refine f1.trans (congrArg some (Eq.trans ?_ (congrArg (vp_cell cA) (mvp_i (Or.inr (Or.inr (Or.inl (show ((h.2 r.toNat).1, (h.2 r.toNat).2.1, fun i_1 => if i_1 = i.toNat then v else (h.2 r.toNat).2.2 i_1).1 = 3 from hkd))))).symm)))
  rw [vp_cell_i]
  congr 1
  funext j
  show updV _ _ _ j = .int (Int32.ofInt (if j = i.toNat then v else (h.2 r.toNat).2.2 j))
  unfold updV
  split <;> rfl
theorem m_cast (pc' : Nat) (hd : decode K.2.2.1 pc = .ok (.castore, 1)) (hp : pc + 1 = pc') {r i v : Int} (h0 : 0 ≤ r) (h4 : 4 ≤ r.toNat) (hr : r.toNat < h.1) (hkd : (h.2 r.toNat).1 = 4) (hi : 0 ≤ i) (hn : i < (h.2 r.toNat).2.1) (hv : 0 ≤ v ∧ v ≤ 65535)
    (kk : MW K Qr mc ms pc' L S (hset h r.toNat i.toNat v)) : MW K Qr mc ms pc L ((0, v) :: (0, i) :: (2, r) :: S) h := by
  subst hp
  intro D a s0 p l e R s m args below meth c H locs cells slots MC MS Q ls cx F P SS hl oL oS hc' hs
  have ov : mokE 4 v := hv
  have oi := mok_i (mokS_cons.mp (mokS_cons.mp oS).2).1
  have oR := (mokS_cons.mp (mokS_cons.mp (mokS_cons.mp oS).2).2).2
  show W p l e R s m args below meth c H locs cells slots Q (F0 m pc ls (.int (Int32.ofInt v) :: .int (Int32.ofInt i) :: mval (mad a s0) (2, r) :: mS (mad a s0) S))
  rw [mval_refP _ h0]
  have hA := P.2.2.2.2.2 r.toNat h4 hr
  unfold mAt at hA
  rw [if_pos (by omega)] at hA
  obtain ⟨cA, e1, e2, e3⟩ := hA
  rw [mvp_i (Or.inr (Or.inr (Or.inr hkd))), vp_cell_i] at e1
  refine W.cast cx.1 cx.2.1 e1 (by have := e2 (h.2 r.toNat).2.1 (fun j => .int (Int32.ofInt ((h.2 r.toNat).2.2 j))); rw [hkd] at this; exact this) (fun q => by cases q) (by rw [arrV_size]; exact mI_in oi hi hn) rfl rfl hd fun H' f1 f2 f3 => ?_
  rw [m_narC hv, arrV_store, mI_nat oi] at f1
  refine kk D a s0 p l e R s m args below meth c H' _ cells slots MC MS Q ls cx F (P.set h4 hr (mokC_set (P.2.2.2.1 _ hr) hkd (by decide) ov) ?_ f2 f3) (SS.put f2 f3 (by rw [mad_ge h4]; exact Nat.le_add_right _ _)) hl oL oR hc' hs
  unfold mAt
  rw [if_pos (by show (h.2 r.toNat).1 < 16; omega)]
  refine ⟨cA, ?_, e2, e3⟩
  refine f1.trans (congrArg some (Eq.trans ?_ (congrArg (vp_cell cA) (mvp_i (Or.inr (Or.inr (Or.inr (show ((h.2 r.toNat).1, (h.2 r.toNat).2.1, fun i_1 => if i_1 = i.toNat then v else (h.2 r.toNat).2.2 i_1).1 = 4 from hkd))))).symm)))
  rw [vp_cell_i]
  congr 1
  funext j
  show updV _ _ _ j = .int (Int32.ofInt (if j = i.toNat then v else (h.2 r.toNat).2.2 j))
  unfold updV
  split <;> rfl
end MS
