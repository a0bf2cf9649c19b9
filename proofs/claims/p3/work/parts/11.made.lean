/-! rules: things are made -/
theorem va_S.grow {A : Nat → Prop} {H0 H H' : Heap} {locs : List Loc} (S : va_S A H0 H locs) (z : H.size ≤ H'.size) (o : ∀ q : Nat, q < H.size → H'[q]? = H[q]?) : va_S A H0 H' locs :=
  ⟨Nat.le_trans S.1 z, fun q h1 h2 => (o q (Nat.lt_of_lt_of_le h1 S.1)).trans (S.2.1 q h1 h2), S.2.2⟩
section MN
variable {D : va_G} {x : Nat → Nat} {s0 : Nat} {s : State} {H H' : Heap} {h : MH}
theorem mRep.size (P : mRep D x s0 s H h) : H.size = mad x s0 h.1 := by
  have h1 := P.1
  have h2 := P.2.1
  rw [mad_ge h1]
  omega
theorem mRep.lt (P : mRep D x s0 s H h) {a : Nat} (h4 : 4 ≤ a) (ha : a < h.1) : mad x s0 a < H.size := by
  have h1 := P.1
  have h2 := P.2.1
  rw [mad_ge h4]
  omega
theorem mRep.new (P : mRep D x s0 s H h) {c : MC} (hok : mokC c) (hat : mAt D (mad x s0) s H' H.size c) (hz : H'.size = H.size + 1) (ho : ∀ q : Nat, q < H.size → H'[q]? = H[q]?) : mRep D x s0 s H' (hnew h c) := by
  have hs := P.size
  obtain ⟨p1, p2, p3, p4, p5, p6⟩ := id P
  refine ⟨by show 4 ≤ h.1 + 1; omega, by show H'.size + 4 = s0 + (h.1 + 1); omega, p3, fun b hb => ?_, fun k hk => ?_, fun b h4 hb => ?_⟩
  · show mokC (if b = h.1 then c else h.2 b)
    split
    · exact hok
    · exact p4 b (by have hb : b < h.1 + 1 := hb; omega)
  · show mEx x s0 s H' k (if k = h.1 then c else h.2 k)
    rw [if_neg (by omega)]
    exact (p5 k hk).kept fun q hq _ => ho q hq
  · show mAt D (mad x s0) s H' (mad x s0 b) (if b = h.1 then c else h.2 b)
    by_cases e : b = h.1
    · rw [if_pos e, e, ← hs]
      exact hat
    · have hb : b < h.1 + 1 := hb
      rw [if_neg e]
      exact (p6 b h4 (by omega)).kept (ho _ (P.lt h4 (by omega)))
end MN
def mdef (t : Nat) : Int := if t = 2 then -1 else 0
theorem mdef_ok (t : Nat) : mok (t, mdef t) := by
  unfold mdef
  match t with
  | 0 => exact mI_zr
  | 1 => exact ⟨by decide, by decide⟩
  | 2 => trivial
  | t + 3 => exact ⟨by simp, by simp⟩
theorem mdef_val (ad : Nat → Nat) (t : FieldType) (hf : t ≠ .float) : defaultValue t = mval ad (mftOf t, mdef (mftOf t)) := by
  cases t <;> first | rfl | exact absurd rfl hf
theorem mft_eq {ci k : Nat} {r : vw_C} {t : FieldType} (hc : mcl[ci]? = some r) (ht : parseFieldDescriptor (r.2.1 k).2.2.1 = some t) : mft ci k = mftOf t := by
  unfold mft
  rw [hc]
  show (match parseFieldDescriptor (r.2.1 k).2.2.1 with | some t => mftOf t | none => 0) = _
  rw [ht]
section MK
variable {K : mK} {Qr : MO → MH → Prop} {mc ms pc : Nat} {L : List (Nat × MV)} {S S' : List MV} {h : MH}
theorem m_new (pc' : Nat) {idx ci : Nat} {C : String} {T : u_T} {N : Nat} {ty0 : Nat → FieldType} (hd : decode K.2.2.1 pc = .ok (.new idx, 3)) (hp : pc + 3 = pc') (hc : mcl[ci]? = some (C, T, N)) (hu : ∀ w ∈ u_ws C T N, w ∈ mTB) (hty : ∀ k, k < N → parseFieldDescriptor (T k).2.2.1 = some (ty0 k)) (hfl : ∀ k, k < N → ty0 k ≠ .float) (hw : Cond.classLink K.2.1 idx C ∈ mTB ∧ Cond.instantiable C N ∈ mTB ∧ Cond.initialized C ∈ mTB) (hmc : 1 ≤ mc) (hms : N ≤ ms)
    (kk : MW K Qr (mc - 1) (ms - N) pc' L ((2, (h.1 : Int)) :: S) (hnew h (16 + ci, N, fun j => mdef (mft ci j)))) : MW K Qr mc ms pc L S h := by
  subst hp
  intro D a s0 p l e R s m args below meth c H locs cells slots MC MS Q ls cx F P SS hl oL oS hc' hs
  have hts := cx.2.2.2.2.2.1
  have hKn := P.2.2.1.1 ci _ hc
  have hR1 := cx.2.2.2.2.2.2.2.2.2.1
  have hR2 := cx.2.2.2.2.2.2.2.2.2.2.1
  refine W.newcK cx.1 cx.2.1 cx.2.2.2.2.1 (hts _ hw.1) (hts _ hw.2.1) (hts _ hw.2.2) rfl hd (by omega) (by omega) hKn.2.1 rfl fun H1 kC hkC e1 z1 o1 => ?_
  have hb := u_born ty0 hts hu hKn hkC e1 hty
  have hok : mokC (16 + ci, N, fun j => mdef (mft ci j)) := by
    unfold mokC
    rw [if_neg (by show ¬ 16 + ci < 16; omega)]
    intro j
    show mok (mft (16 + ci - 16) j, mdef (mft ci j))
    rw [show 16 + ci - 16 = ci by omega]
    exact mdef_ok _
  have hat : mAt D (mad a s0) s H1 H.size (16 + ci, N, fun j => mdef (mft ci j)) := by
    unfold mAt
    rw [if_neg (by show ¬ 16 + ci < 16; omega)]
    refine Or.inr ?_
    show ∃ r : vw_C, mcl[16 + ci - 16]? = some r ∧ _
    rw [show 16 + ci - 16 = ci by omega]
    refine ⟨_, hc, hb.to fun j hj => ?_⟩
    show defaultValue (ty0 j) = mval (mad a s0) (mft ci j, mdef (mft ci j))
    rw [mft_eq hc (hty j hj)]
    exact mdef_val _ _ (hfl j hj)
  have P' := P.new hok hat z1 o1
  have k2 := kk D a s0 p l e R s m args below meth c H1 locs (cells + 1) (slots + N) MC MS Q ls cx F P' (SS.grow (by omega) o1) hl oL (mokS_cons.mpr ⟨trivial, oS⟩) (by omega) (by omega)
  have k2 : W p l e R s m args below meth c H1 locs (cells + 1) (slots + N) Q (F0 m (pc + 3) ls (mval (mad a s0) (2, (h.1 : Int)) :: mS (mad a s0) S)) := k2
  rw [mval_refP _ (by omega), Int.toNat_natCast, ← P.size] at k2
  exact k2
/-- a row of numbers, all 0 -/
theorem m_newarray (pc' : Nat) {at' : ArrayType} {kind : Nat} (hd : decode K.2.2.1 pc = .ok (.newarray at', 2)) (hp : pc + 2 = pc') (hk : (at' = .int ∧ kind = 0) ∨ (at' = .long ∧ kind = 1) ∨ (at' = .boolean ∧ kind = 2) ∨ (at' = .byte ∧ kind = 3) ∨ (at' = .char ∧ kind = 4)) (hw : Cond.arrayClass (newarray.typeOf at') ∈ mTB) {n : Int} (hn : 0 ≤ n) (hn2 : n ≤ 10000000) (hmc : 1 ≤ mc) (hms : n ≤ ms)
    (kk : MW K Qr (mc - 1) (ms - n.toNat) pc' L ((2, (h.1 : Int)) :: S) (hnew h (kind, n.toNat, fun _ => 0))) : MW K Qr mc ms pc L ((0, n) :: S) h := by
  subst hp
  intro D a s0 p l e R s m args below meth c H locs cells slots MC MS Q ls cx F P SS hl oL oS hc' hs
  have hts := cx.2.2.2.2.2.1
  have hR1 := cx.2.2.2.2.2.2.2.2.2.1
  have hR2 := cx.2.2.2.2.2.2.2.2.2.2.1
  have on := mok_i (mokS_cons.mp oS).1
  have hcb : componentBytes (newarray.typeOf at') ≤ 8 := by
    rcases hk with ⟨e, -⟩ | ⟨e, -⟩ | ⟨e, -⟩ | ⟨e, -⟩ | ⟨e, -⟩ <;> (subst e; decide)
  have hbytes : n.toNat * componentBytes (newarray.typeOf at') ≤ 536870912 := Nat.le_trans (Nat.mul_le_mul_left _ hcb) (by omega)
  refine va_newaK (N := n.toNat) cx.1 cx.2.1 (hts _ hw) rfl hd rfl (fun q => by have := (mI_lt0 on).mp q; omega) (mI_nat on) hbytes (by omega) (by omega) rfl fun H1 cA e1 z1 o1 hAr hNm => ?_
  have hkk : kind < 16 := by rcases hk with ⟨-, e⟩ | ⟨-, e⟩ | ⟨-, e⟩ | ⟨-, e⟩ | ⟨-, e⟩ <;> omega
  have hok : mokC (kind, n.toNat, fun _ => 0) := by
    unfold mokC
    rw [if_pos hkk]
    intro j _
    show mokE kind 0
    rcases hk with ⟨-, e⟩ | ⟨-, e⟩ | ⟨-, e⟩ | ⟨-, e⟩ | ⟨-, e⟩ <;> (subst e; exact ⟨by decide, by decide⟩)
  have hat : mAt D (mad a s0) s H1 H.size (kind, n.toNat, fun _ => 0) := by
    unfold mAt
    rw [if_pos hkk]
    refine ⟨cA, ?_, ?_, ?_⟩
    · rw [e1]
      rcases hk with ⟨e, e'⟩ | ⟨e, e'⟩ | ⟨e, e'⟩ | ⟨e, e'⟩ | ⟨e, e'⟩ <;> (subst e; subst e'; rfl)
    · rcases hk with ⟨e, e'⟩ | ⟨e, e'⟩ | ⟨e, e'⟩ | ⟨e, e'⟩ | ⟨e, e'⟩ <;> (subst e; subst e'; exact hAr)
    · rcases hk with ⟨e, e'⟩ | ⟨e, e'⟩ | ⟨e, e'⟩ | ⟨e, e'⟩ | ⟨e, e'⟩ <;> (subst e; subst e'; exact hNm)
  have P' := P.new hok hat z1 o1
  have k2 := kk D a s0 p l e R s m args below meth c H1 locs (cells + 1) (slots + n.toNat) MC MS Q ls cx F P' (SS.grow (by omega) o1) hl oL (mokS_cons.mpr ⟨trivial, (mokS_cons.mp oS).2⟩) (by omega) (by omega)
  have k2 : W p l e R s m args below meth c H1 locs (cells + 1) (slots + n.toNat) Q (F0 m (pc + 2) ls (mval (mad a s0) (2, (h.1 : Int)) :: mS (mad a s0) S)) := k2
  rw [mval_refP _ (by omega), Int.toNat_natCast, ← P.size] at k2
  exact k2
end MK
