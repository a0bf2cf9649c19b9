/-! rules: Math.min, Math.max -/
section MMA
variable {K : mK} {Qr : MO → MH → Prop} {mc ms pc : Nat} {L : List (Nat × MV)} {S : List MV} {h : MH}
theorem m_mmin (pc' : Nat) {idx : Nat} (hd : decode K.2.2.1 pc = .ok (.invokestatic idx, 3)) (hp : pc + 3 = pc') (hw : Cond.methodLink K.2.1 idx Lib.Math.min.name ∈ mTB ∧ Cond.static Lib.Math.min.name ∈ mTB ∧ Cond.initialized "java/lang/Math" ∈ mTB ∧ Cond.code Lib.Math.min.name Lib.Math.min.code 2 (some .int) ∈ mTB) (hr : 1 ≤ K.2.2.2.2.2.1 ∧ (S.map mcat).sum + 13 ≤ K.2.2.2.2.2.2) {x y : Int}
    (kk : ∀ v : Int, (v ≤ x ∧ v ≤ y ∧ (v = x ∨ v = y)) → MW K Qr mc ms pc' L ((0, v) :: S) h) : MW K Qr mc ms pc L ((0, y) :: (0, x) :: S) h := by
  subst hp
  intro D a s0 p l e R s m args below meth c H locs cells slots MC MS Q ls cx F P SS hl oL oS hc' hs
  have hts := cx.2.2.2.2.2.1
  have oy := (mokS_cons.mp oS).1
  have ox := (mokS_cons.mp (mokS_cons.mp oS).2).1
  have oR := (mokS_cons.mp (mokS_cons.mp oS).2).2
  have ey : (Int32.ofInt y).toInt = y := mI_toInt (mok_i oy)
  have ex : (Int32.ofInt x).toInt = x := mI_toInt (mok_i ox)
  have hcs : ((mS (mad a s0) S).map fun v => v.category).sum + 13 ≤ R.locals := by
    rw [mS_cat]
    have := cx.2.2.2.2.2.2.2.2.1
    omega
  refine va_mmin cx.1 cx.2.1 (cx.2.2.1.trans hl.1.symm) cx.2.2.2.2.1 (hts _ hw.1) (hts _ hw.2.1) (hts _ hw.2.2.1) (hts _ hw.2.2.2) (by have := cx.2.2.2.2.2.2.2.1; omega) hcs (by have := cx.2.2.2.2.2.2.2.2.2.1; omega) (by have := cx.2.2.2.2.2.2.2.2.2.2.1; omega) hd ?_
  by_cases q : Int32.ofInt y < Int32.ofInt x
  · rw [if_pos q]
    have q2 := Int32.lt_iff_toInt_lt.mp q
    rw [ex, ey] at q2
    exact kk y ⟨by omega, by omega, by omega⟩ D a s0 p l e R s m args below meth c H locs cells slots MC MS Q ls cx F P SS hl oL (mokS_cons.mpr ⟨oy, oR⟩) hc' hs
  · rw [if_neg q]
    have q2 : ¬ (y < x) := fun z => q (Int32.lt_iff_toInt_lt.mpr (by rw [ex, ey]; exact z))
    exact kk x ⟨by omega, by omega, by omega⟩ D a s0 p l e R s m args below meth c H locs cells slots MC MS Q ls cx F P SS hl oL (mokS_cons.mpr ⟨ox, oR⟩) hc' hs
theorem m_mmax (pc' : Nat) {idx : Nat} (hd : decode K.2.2.1 pc = .ok (.invokestatic idx, 3)) (hp : pc + 3 = pc') (hw : Cond.methodLink K.2.1 idx Lib.Math.max.name ∈ mTB ∧ Cond.static Lib.Math.max.name ∈ mTB ∧ Cond.initialized "java/lang/Math" ∈ mTB ∧ Cond.code Lib.Math.max.name Lib.Math.max.code 2 (some .int) ∈ mTB) (hr : 1 ≤ K.2.2.2.2.2.1 ∧ (S.map mcat).sum + 13 ≤ K.2.2.2.2.2.2) {x y : Int}
    (kk : ∀ v : Int, (x ≤ v ∧ y ≤ v ∧ (v = x ∨ v = y)) → MW K Qr mc ms pc' L ((0, v) :: S) h) : MW K Qr mc ms pc L ((0, y) :: (0, x) :: S) h := by
  subst hp
  intro D a s0 p l e R s m args below meth c H locs cells slots MC MS Q ls cx F P SS hl oL oS hc' hs
  have hts := cx.2.2.2.2.2.1
  have oy := (mokS_cons.mp oS).1
  have ox := (mokS_cons.mp (mokS_cons.mp oS).2).1
  have oR := (mokS_cons.mp (mokS_cons.mp oS).2).2
  have ey : (Int32.ofInt y).toInt = y := mI_toInt (mok_i oy)
  have ex : (Int32.ofInt x).toInt = x := mI_toInt (mok_i ox)
  have hcs : ((mS (mad a s0) S).map fun v => v.category).sum + 13 ≤ R.locals := by
    rw [mS_cat]
    have := cx.2.2.2.2.2.2.2.2.1
    omega
  refine va_mmax cx.1 cx.2.1 (cx.2.2.1.trans hl.1.symm) cx.2.2.2.2.1 (hts _ hw.1) (hts _ hw.2.1) (hts _ hw.2.2.1) (hts _ hw.2.2.2) (by have := cx.2.2.2.2.2.2.2.1; omega) hcs (by have := cx.2.2.2.2.2.2.2.2.2.1; omega) (by have := cx.2.2.2.2.2.2.2.2.2.2.1; omega) hd ?_
  by_cases q : Int32.ofInt x < Int32.ofInt y
  · rw [if_pos q]
    have q2 := Int32.lt_iff_toInt_lt.mp q
    rw [ex, ey] at q2
    exact kk y ⟨by omega, by omega, by omega⟩ D a s0 p l e R s m args below meth c H locs cells slots MC MS Q ls cx F P SS hl oL (mokS_cons.mpr ⟨oy, oR⟩) hc' hs
  · rw [if_neg q]
    have q2 : ¬ (x < y) := fun z => q (Int32.lt_iff_toInt_lt.mpr (by rw [ex, ey]; exact z))
    exact kk x ⟨by omega, by omega, by omega⟩ D a s0 p l e R s m args below meth c H locs cells slots MC MS Q ls cx F P SS hl oL (mokS_cons.mpr ⟨ox, oR⟩) hc' hs
theorem m_mminL (pc' : Nat) {idx : Nat} (hd : decode K.2.2.1 pc = .ok (.invokestatic idx, 3)) (hp : pc + 3 = pc') (hw : Cond.methodLink K.2.1 idx Lib.MathLoose.min_long.x ∈ mTB ∧ Cond.static Lib.MathLoose.min_long.x ∈ mTB ∧ Cond.initialized "java/lang/Math" ∈ mTB ∧ Cond.code Lib.MathLoose.min_long.x Lib.MathLoose.min_long.code 4 (some .long) ∈ mTB) (hr : 1 ≤ K.2.2.2.2.2.1 ∧ (S.map mcat).sum + 15 ≤ K.2.2.2.2.2.2) {x y : Int}
    (kk : ∀ v : Int, (v ≤ x ∧ v ≤ y ∧ (v = x ∨ v = y)) → MW K Qr mc ms pc' L ((1, v) :: S) h) : MW K Qr mc ms pc L ((1, y) :: (1, x) :: S) h := by
  subst hp
  intro D a s0 p l e R s m args below meth c H locs cells slots MC MS Q ls cx F P SS hl oL oS hc' hs
  have hts := cx.2.2.2.2.2.1
  have oy := (mokS_cons.mp oS).1
  have ox := (mokS_cons.mp (mokS_cons.mp oS).2).1
  have oR := (mokS_cons.mp (mokS_cons.mp oS).2).2
  have ey : (Int64.ofInt y).toInt = y := mL_toInt (mok_l oy)
  have ex : (Int64.ofInt x).toInt = x := mL_toInt (mok_l ox)
  have hcs : ((mS (mad a s0) S).map fun v => v.category).sum + 15 ≤ R.locals := by
    rw [mS_cat]
    have := cx.2.2.2.2.2.2.2.2.1
    omega
  refine va_mmin_long cx.1 cx.2.1 (cx.2.2.1.trans hl.1.symm) cx.2.2.2.2.1 (hts _ hw.1) (hts _ hw.2.1) (hts _ hw.2.2.1) (hts _ hw.2.2.2) (by have := cx.2.2.2.2.2.2.2.1; omega) hcs (by have := cx.2.2.2.2.2.2.2.2.2.1; omega) (by have := cx.2.2.2.2.2.2.2.2.2.2.1; omega) hd ?_
  by_cases q : Int64.ofInt y < Int64.ofInt x
  · rw [if_pos q]
    have q2 := Int64.lt_iff_toInt_lt.mp q
    rw [ex, ey] at q2
    exact kk y ⟨by omega, by omega, by omega⟩ D a s0 p l e R s m args below meth c H locs cells slots MC MS Q ls cx F P SS hl oL (mokS_cons.mpr ⟨oy, oR⟩) hc' hs
  · rw [if_neg q]
    have q2 : ¬ (y < x) := fun z => q (Int64.lt_iff_toInt_lt.mpr (by rw [ex, ey]; exact z))
    exact kk x ⟨by omega, by omega, by omega⟩ D a s0 p l e R s m args below meth c H locs cells slots MC MS Q ls cx F P SS hl oL (mokS_cons.mpr ⟨ox, oR⟩) hc' hs
theorem m_mmaxL (pc' : Nat) {idx : Nat} (hd : decode K.2.2.1 pc = .ok (.invokestatic idx, 3)) (hp : pc + 3 = pc') (hw : Cond.methodLink K.2.1 idx Lib.MathLoose.max_long.x ∈ mTB ∧ Cond.static Lib.MathLoose.max_long.x ∈ mTB ∧ Cond.initialized "java/lang/Math" ∈ mTB ∧ Cond.code Lib.MathLoose.max_long.x Lib.MathLoose.max_long.code 4 (some .long) ∈ mTB) (hr : 1 ≤ K.2.2.2.2.2.1 ∧ (S.map mcat).sum + 15 ≤ K.2.2.2.2.2.2) {x y : Int}
    (kk : ∀ v : Int, (x ≤ v ∧ y ≤ v ∧ (v = x ∨ v = y)) → MW K Qr mc ms pc' L ((1, v) :: S) h) : MW K Qr mc ms pc L ((1, y) :: (1, x) :: S) h := by
  subst hp
  intro D a s0 p l e R s m args below meth c H locs cells slots MC MS Q ls cx F P SS hl oL oS hc' hs
  have hts := cx.2.2.2.2.2.1
  have oy := (mokS_cons.mp oS).1
  have ox := (mokS_cons.mp (mokS_cons.mp oS).2).1
  have oR := (mokS_cons.mp (mokS_cons.mp oS).2).2
  have ey : (Int64.ofInt y).toInt = y := mL_toInt (mok_l oy)
  have ex : (Int64.ofInt x).toInt = x := mL_toInt (mok_l ox)
  have hcs : ((mS (mad a s0) S).map fun v => v.category).sum + 15 ≤ R.locals := by
    rw [mS_cat]
    have := cx.2.2.2.2.2.2.2.2.1
    omega
  refine va_mmax_long cx.1 cx.2.1 (cx.2.2.1.trans hl.1.symm) cx.2.2.2.2.1 (hts _ hw.1) (hts _ hw.2.1) (hts _ hw.2.2.1) (hts _ hw.2.2.2) (by have := cx.2.2.2.2.2.2.2.1; omega) hcs (by have := cx.2.2.2.2.2.2.2.2.2.1; omega) (by have := cx.2.2.2.2.2.2.2.2.2.2.1; omega) hd ?_
  by_cases q : Int64.ofInt y < Int64.ofInt x
  · rw [if_pos q]
    have q2 := Int64.lt_iff_toInt_lt.mp q
    rw [ex, ey] at q2
    exact kk x ⟨by omega, by omega, by omega⟩ D a s0 p l e R s m args below meth c H locs cells slots MC MS Q ls cx F P SS hl oL (mokS_cons.mpr ⟨ox, oR⟩) hc' hs
  · rw [if_neg q]
    have q2 : ¬ (y < x) := fun z => q (Int64.lt_iff_toInt_lt.mpr (by rw [ex, ey]; exact z))
    exact kk y ⟨by omega, by omega, by omega⟩ D a s0 p l e R s m args below meth c H locs cells slots MC MS Q ls cx F P SS hl oL (mokS_cons.mpr ⟨oy, oR⟩) hc' hs
end MMA
