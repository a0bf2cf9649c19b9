/-! rules: joins, ranges, switches, compares of longs, doubles -/
theorem mL_le {x y : Int} (hx : -9223372036854775808 ≤ x ∧ x ≤ 9223372036854775807) (hy : -9223372036854775808 ≤ y ∧ y ≤ 9223372036854775807) : Int64.ofInt x ≤ Int64.ofInt y ↔ x ≤ y := by
  rw [Int64.le_iff_toInt_le, mL_toInt hx, mL_toInt hy]
section MG
variable {K : mK} {Qr Qr' : MO → MH → Prop} {mc ms pc : Nat} {L L0 : List (Nat × MV)} {S S' : List MV} {h : MH}
/-- fewer locals, in any order -/
theorem m_sub (L0 : List (Nat × MV)) (hL : ∀ q ∈ L0, mlook L q.1 = some q.2) (k : MW K Qr mc ms pc L0 S h) : MW K Qr mc ms pc L S h := by
  intro D a s0 p l e R s m args below meth c H locs cells slots MC MS Q ls cx F P SS hl oL oS hc hs
  have hin : ∀ q ∈ L0, q ∈ L := fun q hq => mlook_mem (hL q hq)
  refine k D a s0 p l e R s m args below meth c H locs cells slots MC MS Q ls cx F P SS ⟨hl.1, hl.2.1, fun q hq => ?_⟩ (fun q hq => oL q (hin q hq)) oS hc hs
  obtain ⟨q', h1, h2⟩ := List.mem_map.mp hq
  subst h2
  exact hl.2.2 _ (List.mem_map.mpr ⟨q', hin q' h1, rfl⟩)
/-- less room is asked than there is -/
theorem m_room {mc' ms' : Nat} (h1 : mc' ≤ mc) (h2 : ms' ≤ ms) (k : MW K Qr mc' ms' pc L S h) : MW K Qr mc ms pc L S h := by
  intro D a s0 p l e R s m args below meth c H locs cells slots MC MS Q ls cx F P SS hl oL oS hc hs
  exact k D a s0 p l e R s m args below meth c H locs cells slots MC MS Q ls cx F P SS hl oL oS (by omega) (by omega)
theorem m_mono (hQ : ∀ r h', Qr' r h' → Qr r h') (k : MW K Qr' mc ms pc L S h) : MW K Qr mc ms pc L S h := by
  intro D a s0 p l e R s m args below meth c H locs cells slots MC MS Q ls cx F P SS hl oL oS hc hs
  have hq : ∀ (av : Array Value) (st : State) (oc : Outcome) (t : State), mQc D a s0 Qr' av st oc t → mQc D a s0 Qr av st oc t := fun av st oc t ⟨r, h', z, zz⟩ => ⟨r, h', hQ r h' z, zz⟩
  rcases F with ⟨h1, h2⟩ | ⟨h1, hex, s1, d0, h2, h3, h4⟩ | ⟨h1, h2, h3, h4, h5, h6⟩
  · subst h2
    have k2 := k D a s0 p l e R s m args below meth c H locs cells slots MC MS _ ls cx (Or.inl ⟨h1, rfl⟩) P SS hl oL oS hc hs
    intro T hT X
    obtain ⟨t, b1, o, c1, c2, c3, c4⟩ := k2 T hT X
    exact ⟨t, b1, o, c1, c2, hq _ _ _ _ c3, c4⟩
  · subst h4
    have k2 := k D a s0 p l e R s m args below meth c H locs cells slots MC MS _ ls cx (Or.inr (Or.inl ⟨h1, hex, s1, d0, h2, h3, rfl⟩)) P SS hl oL oS hc hs
    intro T hT X
    obtain ⟨t, b1, d, hd, o, c1, c2, c3, c4⟩ := k2 T hT X
    exact ⟨t, b1, d, hd, o, c1, c2, hq _ _ _ _ c3, c4⟩
  · subst h6
    have k2 := k D a s0 p l e R s m args below meth c H locs cells slots MC MS _ ls cx (Or.inr (Or.inr ⟨h1, h2, h3, h4, h5, rfl⟩)) P SS hl oL oS hc hs
    intro T hT X
    obtain ⟨t, b1, o, c1, c2, c3⟩ := k2 T hT X
    refine ⟨t, b1, o, c1, c2, ?_⟩
    rcases c3 with ⟨c3, c4⟩ | ⟨q, e1, E, ce, L', ⟨n, h', g1, g2⟩, g3⟩
    · exact Or.inl ⟨hq _ _ _ _ c3, c4⟩
    · exact Or.inr ⟨q, e1, E, ce, L', ⟨n, h', hQ _ _ g1, g2⟩, g3⟩
theorem m_locI {i : Nat} {x : Int} (hk : mlook L i = some (0, x)) (k : -2147483648 ≤ x → x ≤ 2147483647 → MW K Qr mc ms pc L S h) : MW K Qr mc ms pc L S h := by
  intro D a s0 p l e R s m args below meth c H locs cells slots MC MS Q ls cx F P SS hl oL oS hc hs
  have o := mok_i (oL _ (mlook_mem hk))
  exact k o.1 o.2 D a s0 p l e R s m args below meth c H locs cells slots MC MS Q ls cx F P SS hl oL oS hc hs
theorem m_locL {i : Nat} {x : Int} (hk : mlook L i = some (1, x)) (k : -9223372036854775808 ≤ x → x ≤ 9223372036854775807 → MW K Qr mc ms pc L S h) : MW K Qr mc ms pc L S h := by
  intro D a s0 p l e R s m args below meth c H locs cells slots MC MS Q ls cx F P SS hl oL oS hc hs
  have o := mok_l (oL _ (mlook_mem hk))
  exact k o.1 o.2 D a s0 p l e R s m args below meth c H locs cells slots MC MS Q ls cx F P SS hl oL oS hc hs
theorem m_stkI {x : Int} (k : -2147483648 ≤ x → x ≤ 2147483647 → MW K Qr mc ms pc L ((0, x) :: S) h) : MW K Qr mc ms pc L ((0, x) :: S) h := by
  intro D a s0 p l e R s m args below meth c H locs cells slots MC MS Q ls cx F P SS hl oL oS hc hs
  have o := mok_i (mokS_cons.mp oS).1
  exact k o.1 o.2 D a s0 p l e R s m args below meth c H locs cells slots MC MS Q ls cx F P SS hl oL oS hc hs
theorem m_stkL {x : Int} (k : -9223372036854775808 ≤ x → x ≤ 9223372036854775807 → MW K Qr mc ms pc L ((1, x) :: S) h) : MW K Qr mc ms pc L ((1, x) :: S) h := by
  intro D a s0 p l e R s m args below meth c H locs cells slots MC MS Q ls cx F P SS hl oL oS hc hs
  have o := mok_l (mokS_cons.mp oS).1
  exact k o.1 o.2 D a s0 p l e R s m args below meth c H locs cells slots MC MS Q ls cx F P SS hl oL oS hc hs
theorem m_tswIn (pt : Nat) {dflt lo hi : Int} {offs : Array Int} {len : Nat} {x : Int} {off : Int} (hd : decode K.2.2.1 pc = .ok (.tableswitch dflt lo hi offs, len)) (h1 : lo ≤ x) (h2 : x ≤ hi) (ho : offs[(x - lo).toNat]? = some off) (ht : (pc : Int) + off = (pt : Int)) (k : MW K Qr mc ms pt L S h) : MW K Qr mc ms pc L ((0, x) :: S) h :=
  m_st pt (fun _ o => (mokS_cons.mp o).2) (fun ad p l e R s m args below meth c H locs cells slots Q ls hx hb hl hown hts oL oS kk => by
    have ox := mI_toInt (mok_i (mokS_cons.mp oS).1)
    exact lv_tableIn (x := Int32.ofInt x) hx hb hd (by rw [ox]; omega) (by rw [ox]; omega) (by rw [ox]; exact ho) ht kk) k
theorem m_tswOut (pt : Nat) {dflt lo hi : Int} {offs : Array Int} {len : Nat} {x : Int} (hd : decode K.2.2.1 pc = .ok (.tableswitch dflt lo hi offs, len)) (h1 : x < lo ∨ hi < x) (ht : (pc : Int) + dflt = (pt : Int)) (k : MW K Qr mc ms pt L S h) : MW K Qr mc ms pc L ((0, x) :: S) h :=
  m_st pt (fun _ o => (mokS_cons.mp o).2) (fun ad p l e R s m args below meth c H locs cells slots Q ls hx hb hl hown hts oL oS kk => by
    have ox := mI_toInt (mok_i (mokS_cons.mp oS).1)
    exact lv_tableOut (x := Int32.ofInt x) hx hb hd (by rw [ox]; exact h1) ht kk) k
theorem m_lc_lt (pc' pt : Nat) {off : Int} (hd : decode K.2.2.1 pc = .ok (.lcmp, 1)) (hd2 : decode K.2.2.1 (pc + 1) = .ok (.ifCond .lt off, 3)) (hp : pc + 4 = pc') (ht : (pc : Int) + 1 + off = (pt : Int)) {x y : Int} (kt : x < y → MW K Qr mc ms pt L S h) (kf : ¬ (x < y) → MW K Qr mc ms pc' L S h) : MW K Qr mc ms pc L ((1, y) :: (1, x) :: S) h := by
  subst hp
  intro D a s0 p l e R s m args below meth c H locs cells slots MC MS Q ls C F P SS hl oL oS hc hs
  have oy := mok_l (mokS_cons.mp oS).1
  have ox := mok_l (mokS_cons.mp (mokS_cons.mp oS).2).1
  have o2 := (mokS_cons.mp (mokS_cons.mp oS).2).2
  refine W.lcmp C.1 C.2.1 hd ?_
  refine lv_if_lt C.1 C.2.1 hd2 (by rw [← ht]; omega) (fun q => kt ?_ D a s0 p l e R s m args below meth c H locs cells slots MC MS Q ls C F P SS hl oL o2 hc hs) (fun q => kf ?_ D a s0 p l e R s m args below meth c H locs cells slots MC MS Q ls C F P SS hl oL o2 hc hs)
  · exact (mL_lt ox oy).mp ((lg_cmp_lt _ _).mp q)
  · exact fun z => q ((lg_cmp_lt _ _).mpr ((mL_lt ox oy).mpr z))
theorem m_lc_le (pc' pt : Nat) {off : Int} (hd : decode K.2.2.1 pc = .ok (.lcmp, 1)) (hd2 : decode K.2.2.1 (pc + 1) = .ok (.ifCond .le off, 3)) (hp : pc + 4 = pc') (ht : (pc : Int) + 1 + off = (pt : Int)) {x y : Int} (kt : x ≤ y → MW K Qr mc ms pt L S h) (kf : ¬ (x ≤ y) → MW K Qr mc ms pc' L S h) : MW K Qr mc ms pc L ((1, y) :: (1, x) :: S) h := by
  subst hp
  intro D a s0 p l e R s m args below meth c H locs cells slots MC MS Q ls C F P SS hl oL oS hc hs
  have oy := mok_l (mokS_cons.mp oS).1
  have ox := mok_l (mokS_cons.mp (mokS_cons.mp oS).2).1
  have o2 := (mokS_cons.mp (mokS_cons.mp oS).2).2
  refine W.lcmp C.1 C.2.1 hd ?_
  refine lv_if_le C.1 C.2.1 hd2 (by rw [← ht]; omega) (fun q => kt ?_ D a s0 p l e R s m args below meth c H locs cells slots MC MS Q ls C F P SS hl oL o2 hc hs) (fun q => kf ?_ D a s0 p l e R s m args below meth c H locs cells slots MC MS Q ls C F P SS hl oL o2 hc hs)
  · exact (mL_le ox oy).mp ((lg_cmp_le _ _).mp q)
  · exact fun z => q ((lg_cmp_le _ _).mpr ((mL_le ox oy).mpr z))
theorem m_lc_gt (pc' pt : Nat) {off : Int} (hd : decode K.2.2.1 pc = .ok (.lcmp, 1)) (hd2 : decode K.2.2.1 (pc + 1) = .ok (.ifCond .gt off, 3)) (hp : pc + 4 = pc') (ht : (pc : Int) + 1 + off = (pt : Int)) {x y : Int} (kt : y < x → MW K Qr mc ms pt L S h) (kf : ¬ (y < x) → MW K Qr mc ms pc' L S h) : MW K Qr mc ms pc L ((1, y) :: (1, x) :: S) h := by
  subst hp
  intro D a s0 p l e R s m args below meth c H locs cells slots MC MS Q ls C F P SS hl oL oS hc hs
  have oy := mok_l (mokS_cons.mp oS).1
  have ox := mok_l (mokS_cons.mp (mokS_cons.mp oS).2).1
  have o2 := (mokS_cons.mp (mokS_cons.mp oS).2).2
  refine W.lcmp C.1 C.2.1 hd ?_
  refine lv_if_gt C.1 C.2.1 hd2 (by rw [← ht]; omega) (fun q => kt ?_ D a s0 p l e R s m args below meth c H locs cells slots MC MS Q ls C F P SS hl oL o2 hc hs) (fun q => kf ?_ D a s0 p l e R s m args below meth c H locs cells slots MC MS Q ls C F P SS hl oL o2 hc hs)
  · exact (mL_lt oy ox).mp ((lg_cmp_gt _ _).mp q)
  · exact fun z => q ((lg_cmp_gt _ _).mpr ((mL_lt oy ox).mpr z))
theorem m_lc_ge (pc' pt : Nat) {off : Int} (hd : decode K.2.2.1 pc = .ok (.lcmp, 1)) (hd2 : decode K.2.2.1 (pc + 1) = .ok (.ifCond .ge off, 3)) (hp : pc + 4 = pc') (ht : (pc : Int) + 1 + off = (pt : Int)) {x y : Int} (kt : y ≤ x → MW K Qr mc ms pt L S h) (kf : ¬ (y ≤ x) → MW K Qr mc ms pc' L S h) : MW K Qr mc ms pc L ((1, y) :: (1, x) :: S) h := by
  subst hp
  intro D a s0 p l e R s m args below meth c H locs cells slots MC MS Q ls C F P SS hl oL oS hc hs
  have oy := mok_l (mokS_cons.mp oS).1
  have ox := mok_l (mokS_cons.mp (mokS_cons.mp oS).2).1
  have o2 := (mokS_cons.mp (mokS_cons.mp oS).2).2
  refine W.lcmp C.1 C.2.1 hd ?_
  refine lv_if_ge C.1 C.2.1 hd2 (by rw [← ht]; omega) (fun q => kt ?_ D a s0 p l e R s m args below meth c H locs cells slots MC MS Q ls C F P SS hl oL o2 hc hs) (fun q => kf ?_ D a s0 p l e R s m args below meth c H locs cells slots MC MS Q ls C F P SS hl oL o2 hc hs)
  · exact (mL_le oy ox).mp ((lg_cmp_ge _ _).mp q)
  · exact fun z => q ((lg_cmp_ge _ _).mpr ((mL_le oy ox).mpr z))
theorem m_lc_eq (pc' pt : Nat) {off : Int} (hd : decode K.2.2.1 pc = .ok (.lcmp, 1)) (hd2 : decode K.2.2.1 (pc + 1) = .ok (.ifCond .eq off, 3)) (hp : pc + 4 = pc') (ht : (pc : Int) + 1 + off = (pt : Int)) {x y : Int} (kt : x = y → MW K Qr mc ms pt L S h) (kf : ¬ (x = y) → MW K Qr mc ms pc' L S h) : MW K Qr mc ms pc L ((1, y) :: (1, x) :: S) h := by
  subst hp
  intro D a s0 p l e R s m args below meth c H locs cells slots MC MS Q ls C F P SS hl oL oS hc hs
  have oy := mok_l (mokS_cons.mp oS).1
  have ox := mok_l (mokS_cons.mp (mokS_cons.mp oS).2).1
  have o2 := (mokS_cons.mp (mokS_cons.mp oS).2).2
  refine W.lcmp C.1 C.2.1 hd ?_
  refine lv_if_eq C.1 C.2.1 hd2 (by rw [← ht]; omega) (fun q => kt ?_ D a s0 p l e R s m args below meth c H locs cells slots MC MS Q ls C F P SS hl oL o2 hc hs) (fun q => kf ?_ D a s0 p l e R s m args below meth c H locs cells slots MC MS Q ls C F P SS hl oL o2 hc hs)
  · exact (mL_inj ox oy).mp ((lg_cmp_eq _ _).mp q)
  · exact fun z => q ((lg_cmp_eq _ _).mpr ((mL_inj ox oy).mpr z))
theorem m_lc_ne (pc' pt : Nat) {off : Int} (hd : decode K.2.2.1 pc = .ok (.lcmp, 1)) (hd2 : decode K.2.2.1 (pc + 1) = .ok (.ifCond .ne off, 3)) (hp : pc + 4 = pc') (ht : (pc : Int) + 1 + off = (pt : Int)) {x y : Int} (kt : x ≠ y → MW K Qr mc ms pt L S h) (kf : x = y → MW K Qr mc ms pc' L S h) : MW K Qr mc ms pc L ((1, y) :: (1, x) :: S) h := by
  subst hp
  intro D a s0 p l e R s m args below meth c H locs cells slots MC MS Q ls C F P SS hl oL oS hc hs
  have oy := mok_l (mokS_cons.mp oS).1
  have ox := mok_l (mokS_cons.mp (mokS_cons.mp oS).2).1
  have o2 := (mokS_cons.mp (mokS_cons.mp oS).2).2
  refine W.lcmp C.1 C.2.1 hd ?_
  refine lv_if_ne C.1 C.2.1 hd2 (by rw [← ht]; omega) (fun q => kt ?_ D a s0 p l e R s m args below meth c H locs cells slots MC MS Q ls C F P SS hl oL o2 hc hs) (fun q => kf ?_ D a s0 p l e R s m args below meth c H locs cells slots MC MS Q ls C F P SS hl oL o2 hc hs)
  · exact fun z => q ((lg_cmp_eq _ _).mpr ((mL_inj ox oy).mpr z))
  · exact (mL_inj ox oy).mp ((lg_cmp_eq _ _).mp q)
end MG
