/-! rules: the heap -/
def hset (h : MH) (a j : Nat) (z : Int) : MH := (h.1, fun b => if b = a then ((h.2 a).1, (h.2 a).2.1, fun i => if i = j then z else (h.2 a).2.2 i) else h.2 b)
def hnew (h : MH) (c : MC) : MH := (h.1 + 1, fun b => if b = h.1 then c else h.2 b)
def mfs (ad : Nat → Nat) (ci N : Nat) (f : Nat → Int) : List Value := (List.range N).map fun j => mval ad (mft ci j, f j)
theorem mfs_at {ad : Nat → Nat} {ci N : Nat} {f : Nat → Int} {k : Nat} (hk : k < N) : (mfs ad ci N f)[k]? = some (mval ad (mft ci k, f k)) := by
  simp [mfs, hk]
theorem mfs_V {ad : Nat → Nat} {ci N : Nat} {f : Nat → Int} {k : Nat} (hk : k < N) : vp_V (mfs ad ci N f) k = mval ad (mft ci k, f k) := by
  simp [vp_V, mfs, hk]
theorem mad_ge {x : Nat → Nat} {s0 a : Nat} (h : 4 ≤ a) : mad x s0 a = s0 + (a - 4) := if_neg (by omega)
theorem mad_lt {x : Nat → Nat} {s0 a : Nat} (h : a < 4) : mad x s0 a = x a := if_pos h
section MO
variable {D : va_G} {x : Nat → Nat} {s0 : Nat} {s : State} {H : Heap} {h : MH} {a : Nat}
theorem mRep.ge4 (P : mRep D x s0 s H h) (hk : (h.2 a).1 ≠ 0) : 4 ≤ a := by
  refine Nat.le_of_not_lt fun q => hk (P.2.2.2.2.1 a q).2.1
theorem mRep.obj (P : mRep D x s0 s H h) (ha : a < h.1) {ci : Nat} {r : vw_C} (hk : (h.2 a).1 = 16 + ci) (hr : mcl[ci]? = some r) : va_P D mcl [(mad x s0 a, .inr (ci, mfs (mad x s0) ci r.2.2 (h.2 a).2.2))] H := by
  have h4 : 4 ≤ a := P.ge4 (by omega)
  have hA := P.2.2.2.2.2 a h4 ha
  unfold mAt at hA
  rw [if_neg (by omega)] at hA
  have e : (h.2 a).1 - 16 = ci := by omega
  rw [e] at hA
  have hA := hA.resolve_left (fun z => by
    have e2 : ci = 83 := by omega
    have e3 : mcl[83]? = none := rfl
    rw [e2, e3] at hr
    cases hr)
  obtain ⟨r', h1, h2⟩ := hA
  cases hr.symm.trans h1
  intro k q hq
  have hz : k = 0 := by
    have := (List.getElem?_eq_some_iff.mp hq).1
    simp at this
    exact this
  subst hz
  cases hq
  exact ⟨r, hr, h2.to fun j hj => (mfs_V hj).symm⟩
theorem mRep.arr (P : mRep D x s0 s H h) (h4 : 4 ≤ a) (ha : a < h.1) (hk : (h.2 a).1 < 16) : ∃ cA : ClassId, va_P D mcl [(mad x s0 a, .inl (cA, mvp (mad x s0) (h.2 a)))] H ∧ va_K D mcl [(cA, mty (h.2 a).1)] s := by
  have hA := P.2.2.2.2.2 a h4 ha
  unfold mAt at hA
  rw [if_pos hk] at hA
  obtain ⟨cA, h1, h2, h3⟩ := hA
  refine ⟨cA, fun k q hq => ?_, P.2.2.1.1, fun k q hq => ?_⟩
  · have hz : k = 0 := by
      have := (List.getElem?_eq_some_iff.mp hq).1
      simp at this
      exact this
    subst hz
    cases hq
    exact h1
  · have hz : k = 0 := by
      have := (List.getElem?_eq_some_iff.mp hq).1
      simp at this
      exact this
    subst hz
    cases hq
    exact ⟨h2, h3⟩
theorem mRep.okE (P : mRep D x s0 s H h) (ha : a < h.1) (hk : (h.2 a).1 < 16) {j : Nat} (hj : j < (h.2 a).2.1) : mokE (h.2 a).1 ((h.2 a).2.2 j) := by
  have hA := P.2.2.2.1 a ha
  unfold mokC at hA
  rw [if_pos hk] at hA
  exact hA j hj
theorem mRep.okF (P : mRep D x s0 s H h) (ha : a < h.1) {ci : Nat} (hk : (h.2 a).1 = 16 + ci) (j : Nat) : mok (mft ci j, (h.2 a).2.2 j) := by
  have hA := P.2.2.2.1 a ha
  unfold mokC at hA
  rw [if_neg (by omega)] at hA
  have e : (h.2 a).1 - 16 = ci := by omega
  rw [e] at hA
  exact hA j
end MO
section MH
variable {K : mK} {Qr : MO → MH → Prop} {mc ms pc : Nat} {L : List (Nat × MV)} {S S' : List MV} {h : MH}
theorem m_getfield (pc' : Nat) {idx ci k tag : Nat} {C : String} {T : u_T} {N : Nat} (hd : decode K.2.2.1 pc = .ok (.getfield idx, 3)) (hp : pc + 3 = pc') (hc : mcl[ci]? = some (C, T, N)) (hu : ∀ w ∈ u_ws C T N, w ∈ mTB) (hk : k < N) (hw : Cond.fieldLink K.2.1 idx (T k).1 (T k).2.1 (T k).2.2.1 ∈ mTB) (ht : mft ci k = tag) {r : Int} (h0 : 0 ≤ r) (hr : r.toNat < h.1) (hkd : (h.2 r.toNat).1 = 16 + ci)
    (kk : ∀ v : Int, v = (h.2 r.toNat).2.2 k → mok (tag, v) → MW K Qr mc ms pc' L ((tag, v) :: S) h) : MW K Qr mc ms pc L ((2, r) :: S) h := by
  subst hp
  subst ht
  intro D a s0 p l e R s m args below meth c H locs cells slots MC MS Q ls cx F P SS hl oL oS hc' hs
  have oV : mok (mft ci k, (h.2 r.toNat).2.2 k) := P.okF hr hkd k
  have k2 := kk _ rfl oV D a s0 p l e R s m args below meth c H locs cells slots MC MS Q ls cx F P SS hl oL (mokS_cons.mpr ⟨oV, (mokS_cons.mp oS).2⟩) hc' hs
  show W p l e R s m args below meth c H locs cells slots Q (F0 m pc ls (mval (mad a s0) (2, r) :: mS (mad a s0) S))
  rw [mval_refP _ h0]
  exact va_get cx.1 cx.2.1 cx.2.2.2.2.2.1 hu cx.2.2.2.2.1 P.2.2.1 (P.obj hr hkd hc) 0 rfl hc k hk (cx.2.2.2.2.2.1 _ hw) (fun _ q => q) (mfs_at hk) hd k2
theorem m_getfieldC (pc' : Nat) {idx ci k tag : Nat} {C : String} {T : u_T} {N : Nat} (hd : decode K.2.2.1 pc = .ok (.getfield idx, 3)) (hp : pc + 3 = pc') (hc : mcl[ci]? = some (C, T, N)) (hu : ∀ w ∈ u_ws C T N, w ∈ mTB) (hk : k < N) (hw : Cond.fieldLink K.2.1 idx (T k).1 (T k).2.1 (T k).2.2.1 ∈ mTB) (ht : mft ci k = tag) {r : Int} (h0 : 0 ≤ r) (hr : r.toNat < h.1) (hkd : (h.2 r.toNat).1 = 16 + ci) {v : Int} (hv : (h.2 r.toNat).2.2 k = v)
    (kk : MW K Qr mc ms pc' L ((tag, v) :: S) h) : MW K Qr mc ms pc L ((2, r) :: S) h := m_getfield pc' hd hp hc hu hk hw ht h0 hr hkd fun v' e _ => by rw [e, hv]; exact kk
end MH
