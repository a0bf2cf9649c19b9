/-! rules: arrays of numbers -/
theorem mvp_i {ad : Nat → Nat} {c : MC} (h : c.1 = 0 ∨ c.1 = 2 ∨ c.1 = 3 ∨ c.1 = 4) : mvp ad c = (c.2.1, .inl fun j => Int32.ofInt (c.2.2 j)) := by
  obtain ⟨k, n, f⟩ := c
  rcases h with h | h | h | h <;> (simp only at h; subst h; rfl)
theorem mvp_l {ad : Nat → Nat} {c : MC} (h : c.1 = 1) : mvp ad c = (c.2.1, .inr (.inl fun j => Int64.ofInt (c.2.2 j))) := by
  obtain ⟨k, n, f⟩ := c
  simp only at h
  subst h
  rfl
theorem mvp_q {ad : Nat → Nat} {c : MC} (h : c.1 = 6 ∨ c.1 = 7 ∨ c.1 = 8) : mvp ad c = (c.2.1, .inr (.inr (.inr (.inr fun j => mref ad (c.2.2 j))))) := by
  obtain ⟨k, n, f⟩ := c
  rcases h with h | h | h <;> (simp only at h; subst h; rfl)
section MA
variable {K : mK} {Qr : MO → MH → Prop} {mc ms pc : Nat} {L : List (Nat × MV)} {S S' : List MV} {h : MH}
theorem mokE_ok0 {z : Int} (h : -2147483648 ≤ z ∧ z ≤ 2147483647) : mok (0, z) := h
theorem mokE_ok1 {z : Int} (h : -9223372036854775808 ≤ z ∧ z ≤ 9223372036854775807) : mok (1, z) := h
theorem mokE_ok2 {z : Int} (h : 0 ≤ z ∧ z ≤ 1) : mok (0, z) := ⟨by have := h.1; omega, by have := h.2; omega⟩
theorem mokE_ok3 {z : Int} (h : -128 ≤ z ∧ z ≤ 127) : mok (0, z) := ⟨by have := h.1; omega, by have := h.2; omega⟩
theorem mokE_ok4 {z : Int} (h : 0 ≤ z ∧ z ≤ 65535) : mok (0, z) := ⟨by have := h.1; omega, by have := h.2; omega⟩
theorem m_iald (pc' : Nat) (hd : decode K.2.2.1 pc = .ok (.iaload, 1)) (hp : pc + 1 = pc') {r i : Int} (h0 : 0 ≤ r) (hr : r.toNat < h.1) (hkd : (h.2 r.toNat).1 = 0) (hi : 0 ≤ i) (hn : i < (h.2 r.toNat).2.1)
    (kk : ∀ v : Int, v = (h.2 r.toNat).2.2 i.toNat → mokE 0 v → MW K Qr mc ms pc' L ((0, v) :: S) h) : MW K Qr mc ms pc L ((0, i) :: (2, r) :: S) h := by
  subst hp
  intro D a s0 p l e R s m args below meth c H locs cells slots MC MS Q ls cx F P SS hl oL oS hc' hs
  have oi := mok_i (mokS_cons.mp oS).1
  have oV : mokE 0 ((h.2 r.toNat).2.2 i.toNat) := by
    have := P.okE hr (by omega) (j := i.toNat) (by omega)
    rw [hkd] at this
    exact this
  have oV2 : mok (0, (h.2 r.toNat).2.2 i.toNat) := mokE_ok0 oV
  have k2 := kk _ rfl oV D a s0 p l e R s m args below meth c H locs cells slots MC MS Q ls cx F P SS hl oL (mokS_cons.mpr ⟨oV2, (mokS_cons.mp (mokS_cons.mp oS).2).2⟩) hc' hs
  show W p l e R s m args below meth c H locs cells slots Q (F0 m pc ls (.int (Int32.ofInt i) :: mval (mad a s0) (2, r) :: mS (mad a s0) S))
  rw [mval_refP _ h0]
  by_cases h4 : 4 ≤ r.toNat
  · obtain ⟨cA, hP, hK⟩ := P.arr h4 hr (by omega)
    rw [mvp_i (Or.inl hkd), hkd] at *
    refine va_iald cx.1 cx.2.1 hK hP 0 0 rfl rfl (mI_in oi hi hn) hd ?_
    rw [mI_nat oi]
    exact k2
  · obtain ⟨-, -, ⟨cell, e1, e2, e3, e4, e5, e6⟩, -⟩ := P.2.2.2.2.1 r.toNat (by omega)
    rw [mad_lt (by omega)]
    refine W.iald cx.1 cx.2.1 e1 e2 e3 (fun q => mI_in oi hi hn (q.imp id fun z => ?_)) (v := .int (Int32.ofInt ((h.2 r.toNat).2.2 i.toNat))) (by rw [mI_nat oi]; exact e6 _ (by omega)) rfl rfl hd k2
    exact Nat.le_trans e4 z
theorem m_lald (pc' : Nat) (hd : decode K.2.2.1 pc = .ok (.laload, 1)) (hp : pc + 1 = pc') {r i : Int} (h0 : 0 ≤ r) (hr : r.toNat < h.1) (hkd : (h.2 r.toNat).1 = 1) (hi : 0 ≤ i) (hn : i < (h.2 r.toNat).2.1)
    (kk : ∀ v : Int, v = (h.2 r.toNat).2.2 i.toNat → mokE 1 v → MW K Qr mc ms pc' L ((1, v) :: S) h) : MW K Qr mc ms pc L ((0, i) :: (2, r) :: S) h := by
  subst hp
  intro D a s0 p l e R s m args below meth c H locs cells slots MC MS Q ls cx F P SS hl oL oS hc' hs
  have oi := mok_i (mokS_cons.mp oS).1
  have oV : mokE 1 ((h.2 r.toNat).2.2 i.toNat) := by
    have := P.okE hr (by omega) (j := i.toNat) (by omega)
    rw [hkd] at this
    exact this
  have oV2 : mok (1, (h.2 r.toNat).2.2 i.toNat) := mokE_ok1 oV
  have k2 := kk _ rfl oV D a s0 p l e R s m args below meth c H locs cells slots MC MS Q ls cx F P SS hl oL (mokS_cons.mpr ⟨oV2, (mokS_cons.mp (mokS_cons.mp oS).2).2⟩) hc' hs
  show W p l e R s m args below meth c H locs cells slots Q (F0 m pc ls (.int (Int32.ofInt i) :: mval (mad a s0) (2, r) :: mS (mad a s0) S))
  rw [mval_refP _ h0]
  obtain ⟨cA, hP, hK⟩ := P.arr (P.ge4 (by omega)) hr (by omega)
  rw [mvp_l hkd] at hP
  rw [hkd] at hK
  refine va_lald cx.1 cx.2.1 hK hP 0 0 rfl rfl (mI_in oi hi hn) hd ?_
  rw [mI_nat oi]
  exact k2
theorem m_zald (pc' : Nat) (hd : decode K.2.2.1 pc = .ok (.baload, 1)) (hp : pc + 1 = pc') {r i : Int} (h0 : 0 ≤ r) (hr : r.toNat < h.1) (hkd : (h.2 r.toNat).1 = 2) (hi : 0 ≤ i) (hn : i < (h.2 r.toNat).2.1)
    (kk : ∀ v : Int, v = (h.2 r.toNat).2.2 i.toNat → mokE 2 v → MW K Qr mc ms pc' L ((0, v) :: S) h) : MW K Qr mc ms pc L ((0, i) :: (2, r) :: S) h := by
  subst hp
  intro D a s0 p l e R s m args below meth c H locs cells slots MC MS Q ls cx F P SS hl oL oS hc' hs
  have oi := mok_i (mokS_cons.mp oS).1
  have oV : mokE 2 ((h.2 r.toNat).2.2 i.toNat) := by
    have := P.okE hr (by omega) (j := i.toNat) (by omega)
    rw [hkd] at this
    exact this
  have oV2 : mok (0, (h.2 r.toNat).2.2 i.toNat) := mokE_ok2 oV
  have k2 := kk _ rfl oV D a s0 p l e R s m args below meth c H locs cells slots MC MS Q ls cx F P SS hl oL (mokS_cons.mpr ⟨oV2, (mokS_cons.mp (mokS_cons.mp oS).2).2⟩) hc' hs
  show W p l e R s m args below meth c H locs cells slots Q (F0 m pc ls (.int (Int32.ofInt i) :: mval (mad a s0) (2, r) :: mS (mad a s0) S))
  rw [mval_refP _ h0]
  obtain ⟨cA, hP, hK⟩ := P.arr (P.ge4 (by omega)) hr (by omega)
  rw [mvp_i (Or.inr (Or.inl hkd))] at hP
  rw [hkd] at hK
  refine va_zald cx.1 cx.2.1 hK hP 0 0 rfl rfl (mI_in oi hi hn) hd ?_
  rw [mI_nat oi]
  exact k2
theorem m_bald (pc' : Nat) (hd : decode K.2.2.1 pc = .ok (.baload, 1)) (hp : pc + 1 = pc') {r i : Int} (h0 : 0 ≤ r) (hr : r.toNat < h.1) (hkd : (h.2 r.toNat).1 = 3) (hi : 0 ≤ i) (hn : i < (h.2 r.toNat).2.1)
    (kk : ∀ v : Int, v = (h.2 r.toNat).2.2 i.toNat → mokE 3 v → MW K Qr mc ms pc' L ((0, v) :: S) h) : MW K Qr mc ms pc L ((0, i) :: (2, r) :: S) h := by
  subst hp
  intro D a s0 p l e R s m args below meth c H locs cells slots MC MS Q ls cx F P SS hl oL oS hc' hs
  have oi := mok_i (mokS_cons.mp oS).1
  have oV : mokE 3 ((h.2 r.toNat).2.2 i.toNat) := by
    have := P.okE hr (by omega) (j := i.toNat) (by omega)
    rw [hkd] at this
    exact this
  have oV2 : mok (0, (h.2 r.toNat).2.2 i.toNat) := mokE_ok3 oV
  have k2 := kk _ rfl oV D a s0 p l e R s m args below meth c H locs cells slots MC MS Q ls cx F P SS hl oL (mokS_cons.mpr ⟨oV2, (mokS_cons.mp (mokS_cons.mp oS).2).2⟩) hc' hs
  show W p l e R s m args below meth c H locs cells slots Q (F0 m pc ls (.int (Int32.ofInt i) :: mval (mad a s0) (2, r) :: mS (mad a s0) S))
  rw [mval_refP _ h0]
  obtain ⟨cA, hP, hK⟩ := P.arr (P.ge4 (by omega)) hr (by omega)
  rw [mvp_i (Or.inr (Or.inr (Or.inl hkd)))] at hP
  rw [hkd] at hK
  refine va_bald cx.1 cx.2.1 hK hP 0 0 rfl rfl (mI_in oi hi hn) hd ?_
  rw [mI_nat oi]
  exact k2
theorem m_cald (pc' : Nat) (hd : decode K.2.2.1 pc = .ok (.caload, 1)) (hp : pc + 1 = pc') {r i : Int} (h0 : 0 ≤ r) (hr : r.toNat < h.1) (hkd : (h.2 r.toNat).1 = 4) (hi : 0 ≤ i) (hn : i < (h.2 r.toNat).2.1)
    (kk : ∀ v : Int, v = (h.2 r.toNat).2.2 i.toNat → mokE 4 v → MW K Qr mc ms pc' L ((0, v) :: S) h) : MW K Qr mc ms pc L ((0, i) :: (2, r) :: S) h := by
  subst hp
  intro D a s0 p l e R s m args below meth c H locs cells slots MC MS Q ls cx F P SS hl oL oS hc' hs
  have oi := mok_i (mokS_cons.mp oS).1
  have oV : mokE 4 ((h.2 r.toNat).2.2 i.toNat) := by
    have := P.okE hr (by omega) (j := i.toNat) (by omega)
    rw [hkd] at this
    exact this
  have oV2 : mok (0, (h.2 r.toNat).2.2 i.toNat) := mokE_ok4 oV
  have k2 := kk _ rfl oV D a s0 p l e R s m args below meth c H locs cells slots MC MS Q ls cx F P SS hl oL (mokS_cons.mpr ⟨oV2, (mokS_cons.mp (mokS_cons.mp oS).2).2⟩) hc' hs
  show W p l e R s m args below meth c H locs cells slots Q (F0 m pc ls (.int (Int32.ofInt i) :: mval (mad a s0) (2, r) :: mS (mad a s0) S))
  rw [mval_refP _ h0]
  obtain ⟨cA, hP, hK⟩ := P.arr (P.ge4 (by omega)) hr (by omega)
  rw [mvp_i (Or.inr (Or.inr (Or.inr hkd)))] at hP
  rw [hkd] at hK
  refine va_cald cx.1 cx.2.1 hK hP 0 0 rfl rfl (mI_in oi hi hn) hd ?_
  rw [mI_nat oi]
  exact k2
end MA
