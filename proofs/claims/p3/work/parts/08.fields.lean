/-! rules: fields are written; lengths; statics -/
theorem m_nz {v : Int} (h : 0 ≤ v ∧ v ≤ 1) (ad : Nat → Nat) : narrow .boolean (mval ad (0, v)) = mval ad (0, v) := m_narZ h
theorem m_fz {v : Int} (h : 0 ≤ v ∧ v ≤ 1) (ad : Nat → Nat) : fits .boolean (mval ad (0, v)) = true := by
  rcases (by omega : v = 0 ∨ v = 1) with e | e <;> (rw [e]; rfl)
theorem m_nrO {v : Int} (C : String) (ad : Nat → Nat) : narrow (.object C) (mval ad (2, v)) = mval ad (2, v) := by
  rw [mval_ref]; cases mref ad v <;> rfl
theorem m_frO {v : Int} (C : String) (ad : Nat → Nat) : fits (.object C) (mval ad (2, v)) = true := by
  rw [mval_ref]; cases mref ad v <;> rfl
theorem m_nrA {v : Int} (t : FieldType) (ad : Nat → Nat) : narrow (.array t) (mval ad (2, v)) = mval ad (2, v) := by
  rw [mval_ref]; cases mref ad v <;> rfl
theorem m_frA {v : Int} (t : FieldType) (ad : Nat → Nat) : fits (.array t) (mval ad (2, v)) = true := by
  rw [mval_ref]; cases mref ad v <;> rfl
theorem mokC_setF {h : MH} {a j ci : Nat} {z : Int} (ok : mokC (h.2 a)) (hk : (h.2 a).1 = 16 + ci) (hz : mok (mft ci j, z)) : mokC ((h.2 a).1, (h.2 a).2.1, fun i => if i = j then z else (h.2 a).2.2 i) := by
  unfold mokC at ok ⊢
  have hk' : ¬ (h.2 a).1 < 16 := by omega
  rw [if_neg hk'] at ok ⊢
  have e : (h.2 a).1 - 16 = ci := by omega
  intro i
  show mok (mft ((h.2 a).1 - 16) i, if i = j then z else (h.2 a).2.2 i)
  split
  · next q => rw [e, q]; exact hz
  · exact ok i
section MF
variable {K : mK} {Qr : MO → MH → Prop} {mc ms pc : Nat} {L : List (Nat × MV)} {S S' : List MV} {h : MH}
theorem m_putfield (pc' : Nat) {idx ci k tag : Nat} {C : String} {T : u_T} {N : Nat} {ty0 : Nat → FieldType} (hd : decode K.2.2.1 pc = .ok (.putfield idx, 3)) (hp : pc + 3 = pc') (hc : mcl[ci]? = some (C, T, N)) (hu : ∀ w ∈ u_ws C T N, w ∈ mTB) (hty : ∀ k, k < N → parseFieldDescriptor (T k).2.2.1 = some (ty0 k)) (hnm : ∀ a, a < N → ∀ b, b < N → a ≠ b → (T a).2.1 ≠ (T b).2.1) (hk : k < N) (hfin : (T k).2.2.2 = false ∨ ((T k).2.2.2 = true ∧ K.1 = 3 ∧ K.2.1 = (T k).1)) (hw : Cond.fieldLink K.2.1 idx (T k).1 (T k).2.1 (T k).2.2.1 ∈ mTB) (ht : mft ci k = tag) {r v : Int} (hn : ∀ ad, narrow (ty0 k) (mval ad (tag, v)) = mval ad (tag, v)) (hf : ∀ ad, fits (ty0 k) (mval ad (tag, v)) = true) (h0 : 0 ≤ r) (hr : r.toNat < h.1) (hkd : (h.2 r.toNat).1 = 16 + ci)
    (kk : MW K Qr mc ms pc' L S (hset h r.toNat k v)) : MW K Qr mc ms pc L ((tag, v) :: (2, r) :: S) h := by
  subst hp
  subst ht
  intro D a s0 p l e R s m args below meth c H locs cells slots MC MS Q ls cx F P SS hl oL oS hc' hs
  have oV := (mokS_cons.mp oS).1
  have oR := (mokS_cons.mp (mokS_cons.mp oS).2).2
  have h4 : 4 ≤ r.toNat := P.ge4 (by omega)
  show W p l e R s m args below meth c H locs cells slots Q (F0 m pc ls (mval (mad a s0) (mft ci k, v) :: mval (mad a s0) (2, r) :: mS (mad a s0) S))
  rw [mval_refP _ h0]
  have hK := P.2.2.1
  have hts := cx.2.2.2.2.2.1
  have hown := cx.2.2.2.2.1
  have hlink := hts _ hw
  have hap := va_apart (own := K.2.1) hts hu ty0 hty hnm hK hc
  obtain ⟨r', h1, cell, q1, q2, q3, q4⟩ := P.obj hr hkd hc 0 _ rfl
  have hr' : r' = (C, T, N) := Option.some.inj (h1.symm.trans hc)
  subst hr'
  obtain ⟨hS, hfc, kC, hkC, hkind⟩ := hK.1 ci _ hc
  obtain ⟨cf, kf, fi, f, hi, hsl⟩ := hS k hk
  have hlay := hts _ (hu _ (u_in_lay hk))
  have hst := (u_facts hfc hkC (u_lays hts hu hk) hi).1
  have hgo : ∀ H' : Heap, H'[mad a s0 r.toNat]? = some (cell.setSlot f.slot (mval (mad a s0) (mft ci k, v))) → H'.size = H.size → (∀ q, q ≠ mad a s0 r.toNat → H'[q]? = H[q]?) → W p l e R s m args below meth c H' (locs ++ [⟨mad a s0 r.toNat, f.slot⟩]) cells slots Q { F0 m pc ls (mval (mad a s0) (mft ci k, v) :: Value.ref (mad a s0 r.toNat) :: mS (mad a s0) S) with pc := pc + 3, stack := mS (mad a s0) S } := by
    intro H' e1 e2 e3
    refine kk D a s0 p l e R s m args below meth c H' _ cells slots MC MS Q ls cx F (P.set h4 hr (mokC_setF (P.2.2.2.1 _ hr) hkd oV) ?_ e2 e3) (SS.put e2 e3 (by rw [mad_ge h4]; exact Nat.le_add_right _ _)) hl oL oR hc' hs
    unfold mAt
    rw [if_neg (by show ¬ (h.2 r.toNat).1 < 16; omega)]
    refine Or.inr ?_
    show ∃ r_1, mcl[(h.2 r.toNat).1 - 16]? = some r_1 ∧ _
    have e : (h.2 r.toNat).1 - 16 = ci := by omega
    rw [e]
    rw [hsl] at e1
    refine ⟨_, hc, ⟨_, e1, q2, q3, fun j hj => ?_⟩⟩
    rw [t_set q4 hap hk _ j hj]
    show some (updV _ _ _ j) = some (mval (mad a s0) (mft ci j, if j = k then v else (h.2 r.toNat).2.2 j))
    unfold updV
    by_cases z : j = k
    · rw [if_pos z, if_pos z, z]
    · rw [if_neg z, if_neg z, mfs_V hj]
  rcases hfin with hfin | ⟨hfin, h3, hdecl⟩
  · unfold u_lay at hlay
    rw [if_neg (by rw [hfin]; decide)] at hlay
    have h6 := u_store hfc hkC hkind hlay hi (hty k hk) (hn (mad a s0)) (hf (mad a s0))
    exact W.putK cx.1 cx.2.1 (f := f) ⟨hown, hlink, ⟨_, _, _, hi⟩, hst⟩ (by rw [q2]; exact h6) q1 q3 (by rw [hsl]; exact k2_hasslot (q4 k hk)) rfl rfl hd hgo
  · unfold u_lay at hlay
    rw [if_pos hfin] at hlay
    have hcf : m.cls = cf := by
      obtain ⟨_, _, c', _, _, _, -, -, hf', -, -, -, hown2, -⟩ := Cond.laysFinal_spec hlay
      have e1 : c' = cf := by have := hi.symm.trans hf'; simp at this; exact this.1.symm
      rw [← hdecl] at hown2
      rw [← e1]; exact Option.some.inj (hown.symm.trans hown2)
    have h6 := u_fits hfc hkC hkind (Or.inr hlay) hi (hty k hk) (hn (mad a s0)) (hf (mad a s0))
    exact W.putFinK cx.1 cx.2.1 hown hlink hi hst hcf (cx.2.2.2.2.2.2.2.2.2.2.2.2.1 h3) (by rw [q2]; exact h6) q1 q3 (by rw [hsl]; exact k2_hasslot (q4 k hk)) rfl rfl hd hgo
/-- the length of a row -/
theorem m_alen (pc' : Nat) (hd : decode K.2.2.1 pc = .ok (.arraylength, 1)) (hp : pc + 1 = pc') {r : Int} (h0 : 0 ≤ r) (hr : r.toNat < h.1) (hkd : (h.2 r.toNat).1 < 16) (hn : (h.2 r.toNat).2.1 ≤ 2147483647)
    (kk : MW K Qr mc ms pc' L ((0, ((h.2 r.toNat).2.1 : Int)) :: S) h) : MW K Qr mc ms pc L ((2, r) :: S) h := by
  subst hp
  intro D a s0 p l e R s m args below meth c H locs cells slots MC MS Q ls cx F P SS hl oL oS hc' hs
  have k2 := kk D a s0 p l e R s m args below meth c H locs cells slots MC MS Q ls cx F P SS hl oL (mokS_i ⟨by omega, by omega⟩ (mokS_cons.mp oS).2) hc' hs
  show W p l e R s m args below meth c H locs cells slots Q (F0 m pc ls (mval (mad a s0) (2, r) :: mS (mad a s0) S))
  rw [mval_refP _ h0]
  by_cases h4 : 4 ≤ r.toNat
  · obtain ⟨cA, hP, hK⟩ := P.arr h4 hr hkd
    refine va_alen cx.1 cx.2.1 hK hP 0 0 rfl rfl (v := Int32.ofInt ((h.2 r.toNat).2.1 : Int)) ?_ hd k2
    have : (mvp (mad a s0) (h.2 r.toNat)).1 = (h.2 r.toNat).2.1 := by
      unfold mvp
      split <;> rfl
    rw [this, Int32.ofInt_eq_ofNat]
  · obtain ⟨-, -, ⟨cell, e1, e2, e3, e4, e5, e6⟩, -⟩ := P.2.2.2.2.1 r.toNat (by omega)
    rw [mad_lt (by omega)]
    exact W.alen cx.1 cx.2.1 e1 e2 (e5.trans Int32.ofInt_eq_ofNat.symm) rfl rfl hd k2
/-- a row of class Way that was there before -/
theorem m_getstatic (pc' : Nat) {idx j : Nat} (hd : decode K.2.2.1 pc = .ok (.getstatic idx, 3)) (hp : pc + 3 = pc') (hj : j < 4) (hj0 : j ≠ 0) (hw : Cond.fieldLink K.2.1 idx "RoadHouse$Way" (mxn j) "[I" ∈ mTB)
    (kk : MW K Qr mc ms pc' L ((2, (j : Int)) :: S) h) : MW K Qr mc ms pc L S h := by
  subst hp
  intro D a s0 p l e R s m args below meth c H locs cells slots MC MS Q ls cx F P SS hl oL oS hc' hs
  have k2 := kk D a s0 p l e R s m args below meth c H locs cells slots MC MS Q ls cx F P SS hl oL (mokS_cons.mpr ⟨trivial, oS⟩) hc' hs
  obtain ⟨-, -, -, hz⟩ := P.2.2.2.2.1 j hj
  obtain ⟨cf, kf, fi, f, b, cell, h1, h2, h3, h4, h5, h6, h7, h8⟩ := hz.resolve_left hj0
  have k2 : W p l e R s m args below meth c H locs cells slots Q (F0 m (pc + 3) ls (mval (mad a s0) (2, (j : Int)) :: mS (mad a s0) S)) := k2
  rw [mval_refP _ (by omega), Int.toNat_natCast, mad_lt hj] at k2
  exact W.gets cx.1 cx.2.1 cx.2.2.2.2.1 (cx.2.2.2.2.2.1 _ hw) h1 h2 h3 h4 h5 (fun q => by rw [q] at h6; cases h6) h7 rfl hd k2
end MF
