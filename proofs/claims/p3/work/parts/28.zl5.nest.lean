/-! a field of another class of the same nest is read -/
theorem m_lengths {K : mK} {Qr : MO → MH → Prop} {mc ms pc : Nat} {L : List (Nat × MV)} {S : List MV} {h : MH} (hK : K.2.1 = "RoadHouseModel") (hd : decode K.2.2.1 pc = .ok (.getfield 211, 3)) {r : Int} (h0 : 0 ≤ r) (hr : r.toNat < h.1) (hkd : (h.2 r.toNat).1 = 30)
    (kk : ∀ v : Int, v = (h.2 r.toNat).2.2 4 → mok (2, v) → MW K Qr mc ms (pc + 3) L ((2, v) :: S) h) : MW K Qr mc ms pc L ((2, r) :: S) h := by
  intro D a s0 p l e R s m args below meth c H locs cells slots MC MS Q ls cx F P SS hl oL oS hc' hs
  have hc : ∃ C T N, mcl[14]? = some (C, T, N) ∧ 4 < N ∧ (T 4).1 = "RoadHouseModel$InfluenceRowsModel" ∧ (T 4).2.1 = "lengths" ∧ (T 4).2.2.1 = "[I" := ⟨_, _, _, rfl, by decide +kernel, by decide +kernel, by decide +kernel, by decide +kernel⟩
  obtain ⟨C, T, N, hc, hk, t1, t2, t3⟩ := hc
  have hu : ∀ w ∈ u_ws C T N, w ∈ mTB := (mcl_ok _ (List.mem_of_getElem? hc)).1
  have oV : mok (mft 14 4, (h.2 r.toNat).2.2 4) := P.okF (ci := 14) hr hkd 4
  have k2 := kk _ rfl oV D a s0 p l e R s m args below meth c H locs cells slots MC MS Q ls cx F P SS hl oL (mokS_cons.mpr ⟨oV, (mokS_cons.mp oS).2⟩) hc' hs
  show W p l e R s m args below meth c H locs cells slots Q (F0 m pc ls (mval (mad a s0) (2, r) :: mS (mad a s0) S))
  rw [mval_refP _ h0]
  have ns := cx.2.2.2.2.2.2.2.2.2.2.2.2.2
  have hown := cx.2.2.2.2.1
  rw [hK] at hown
  have lk : (Cond.fieldLinkNest "RoadHouseModel" 211 (T 4).1 (T 4).2.1 (T 4).2.2.1 "RoadHouseModel").before args s = true := by
    rw [t1, t2, t3]
    exact va_Nw.use rfl ns.2.1
  exact va_getN cx.1 cx.2.1 cx.2.2.2.2.2.1 hu hown P.2.2.1 (P.obj hr hkd hc) 0 rfl hc 4 hk lk (fun _ q => q) (mfs_at hk) hd k2
theorem hd_lengths {Q : MO → MH → Prop} {mc ms : Nat} {L : List (Nat × MV)} {S : List MV} {h : MH} {n : Nat} (hc : 2495 < h.1 ∧ (h.2 2495).1 = 30 ∧ (30 < 16 → (h.2 2495).2.1 = 0)) (hv : (h.2 2495).2.2 4 = (n : Int)) (k : MW KX20_rowOf Q mc ms (pcA pgX20_rowOf 158) L ((2, (n : Int)) :: S) h) : MW KX20_rowOf Q mc ms (pcA pgX20_rowOf 157) L ((2, ((2495 : Nat) : Int)) :: S) h := by
  refine m_lengths (K := KX20_rowOf) (by decide +kernel) (by decide +kernel) (Int.natCast_nonneg _) hc.1 hc.2.1 (fun v ev _ => ?_)
  have e : v = (n : Int) := ev.trans hv
  rw [e]
  exact k
