/-! doubles: what isn't a number has bits that are drawn -/
theorem mDb (z : UInt64) : UInt64.ofNat ((z.toNat : Int)).toNat = z := UInt64.ofNat_toNat
theorem mok_db (z : UInt64) : mok (3, (z.toNat : Int)) := by
  have := z.toNat_lt
  show 0 ≤ (z.toNat : Int) ∧ (z.toNat : Int) ≤ 18446744073709551615
  omega
section DB
variable {K : mK} {Qr : MO → MH → Prop} {mc ms pc : Nat} {L : List (Nat × MV)} {S S' : List MV} {h : MH}
theorem m_dnew (hk : K.1 = 1) {rest : List MV} {f : UInt64 → Prop} (pc' : Nat)
    (step : ∀ (ad : Nat → Nat) (p : Program) (l : Launch) (e : Env) (R : Room) (s1 : State) (d0 : Drawn) (m : MethodId) (args : Array Value) (below : List Frame) (meth : Method) (c : Code) (H : Heap) (locs : List Loc) (cells slots : Nat) (Q : State → Prop) (ls : Array Slot), s1.drawn.sameBut d0 lw_cs → p.tables.exec = Jvm.exec → c.code = K.2.2.1 →
      (∀ (r : UInt64) (d' : Drawn), f r → s1.drawn.sameBut d' lw_cs → W p l e R (s1.setDrawn d') m args below meth c H locs cells slots Q (F0 m pc' ls (.double r :: mS ad rest))) → W p l e R (s1.setDrawn d0) m args below meth c H locs cells slots Q (F0 m pc ls (mS ad S)))
    (hr : mokS S → mokS rest) (kk : ∀ r : UInt64, f r → MW K Qr mc ms pc' L ((3, (r.toNat : Int)) :: rest) h) : MW K Qr mc ms pc L S h := by
  intro D a s0 p l e R s m args below meth c H locs cells slots MC MS Q ls cx F P SS hl oL oS hc' hs
  rcases F with ⟨z, -⟩ | ⟨-, hex, s1, d0, rfl, hd0, rfl⟩ | ⟨z, -⟩
  · omega
  · refine step (mad a s0) p l e R s1 d0 m args below meth c H locs cells slots _ ls hd0 cx.1 cx.2.1 fun r d' hf hd' => ?_
    obtain ⟨c1, c2, c3, c4, c5, c6, c7, c8, c9, c10, c11, c12, c13, c14⟩ := cx
    have cx' : mCx K p R (s1.setDrawn d') m args meth c s0 MC MS := ⟨c1, c2, c3, c4, c5, fun w hw => (Cond.before_setDrawn _ (s1.setDrawn d0) d' _).trans (c6 w hw), c7, c8, c9, c10, c11, c12, c13, mNs.drawn d' c14⟩
    have P' : mRep D a s0 (s1.setDrawn d') H h := P.moved (s := s1.setDrawn d0) (t := s1.setDrawn d') (Vm.Alike.refl _)
    have k2 := kk r hf D a s0 p l e R (s1.setDrawn d') m args below meth c H locs cells slots MC MS _ ls cx' (Or.inr (Or.inl ⟨hk, fun z => (hex z).drawn d', s1, d', rfl, hd', rfl⟩)) P' SS hl oL (mokS_cons.mpr ⟨mok_db r, hr oS⟩) hc' hs
    replace k2 : W p l e R (s1.setDrawn d') m args below meth c H locs cells slots _ (F0 m pc' ls (.double (UInt64.ofNat ((r.toNat : Int)).toNat) :: mS (mad a s0) rest)) := k2
    rw [mDb] at k2
    exact k2
  · omega
/-- what two doubles are worth -/
abbrev dv (x : Int) : UInt64 := UInt64.ofNat x.toNat
theorem m_nan : nanBits ∈ lw_cs := by decide +kernel
theorem m_dadd (hk : K.1 = 1) (hd : decode K.2.2.1 pc = .ok (.dadd, 1)) {x y : Int} (kk : ∀ r : UInt64, alike64 r (FP.dadd (dv x) (dv y)) = true → MW K Qr mc ms (pc + 1) L ((3, (r.toNat : Int)) :: S) h) : MW K Qr mc ms pc L ((3, y) :: (3, x) :: S) h :=
  m_dnew hk (rest := S) (f := fun r => alike64 r (FP.dadd (dv x) (dv y)) = true) (pc + 1) (fun ad p l e R s1 d0 m args below meth c H locs cells slots Q ls hd0 hx hb k => lv_dadd_any hd0 m_nan hx hb hd k) (fun o => (mokS_cons.mp (mokS_cons.mp o).2).2) kk
theorem m_dsub (hk : K.1 = 1) (hd : decode K.2.2.1 pc = .ok (.dsub, 1)) {x y : Int} (kk : ∀ r : UInt64, alike64 r (FP.dsub (dv x) (dv y)) = true → MW K Qr mc ms (pc + 1) L ((3, (r.toNat : Int)) :: S) h) : MW K Qr mc ms pc L ((3, y) :: (3, x) :: S) h :=
  m_dnew hk (rest := S) (f := fun r => alike64 r (FP.dsub (dv x) (dv y)) = true) (pc + 1) (fun ad p l e R s1 d0 m args below meth c H locs cells slots Q ls hd0 hx hb k => lv_dsub_any hd0 m_nan hx hb hd k) (fun o => (mokS_cons.mp (mokS_cons.mp o).2).2) kk
theorem m_dmul (hk : K.1 = 1) (hd : decode K.2.2.1 pc = .ok (.dmul, 1)) {x y : Int} (kk : ∀ r : UInt64, alike64 r (FP.dmul (dv x) (dv y)) = true → MW K Qr mc ms (pc + 1) L ((3, (r.toNat : Int)) :: S) h) : MW K Qr mc ms pc L ((3, y) :: (3, x) :: S) h :=
  m_dnew hk (rest := S) (f := fun r => alike64 r (FP.dmul (dv x) (dv y)) = true) (pc + 1) (fun ad p l e R s1 d0 m args below meth c H locs cells slots Q ls hd0 hx hb k => lv_dmul_any hd0 m_nan hx hb hd k) (fun o => (mokS_cons.mp (mokS_cons.mp o).2).2) kk
theorem m_ddiv (hk : K.1 = 1) (hd : decode K.2.2.1 pc = .ok (.ddiv, 1)) {x y : Int} (kk : ∀ r : UInt64, alike64 r (FP.ddiv (dv x) (dv y)) = true → MW K Qr mc ms (pc + 1) L ((3, (r.toNat : Int)) :: S) h) : MW K Qr mc ms pc L ((3, y) :: (3, x) :: S) h :=
  m_dnew hk (rest := S) (f := fun r => alike64 r (FP.ddiv (dv x) (dv y)) = true) (pc + 1) (fun ad p l e R s1 d0 m args below meth c H locs cells slots Q ls hd0 hx hb k => lv_ddiv_any hd0 m_nan hx hb hd k) (fun o => (mokS_cons.mp (mokS_cons.mp o).2).2) kk
theorem m_i2d (hd : decode K.2.2.1 pc = .ok (.i2d, 1)) {x : Int} (k : MW K Qr mc ms (pc + 1) L ((3, ((FP.i2d (Int32.ofInt x)).toNat : Int)) :: S) h) : MW K Qr mc ms pc L ((0, x) :: S) h :=
  m_st _ (fun oL o => mokS_cons.mpr ⟨mok_db _, (mokS_cons.mp o).2⟩) (fun ad p l e R s m args below meth c H locs cells slots Q ls hx hb hl hown hts oL oS kk => lv_i2d hx hb hd (by
    replace kk : W p l e R s m args below meth c H locs cells slots Q (F0 m (pc + 1) ls (.double (UInt64.ofNat (((FP.i2d (Int32.ofInt x)).toNat : Int)).toNat) :: mS ad S)) := kk
    rw [mDb] at kk
    exact kk)) k
theorem m_l2d (hd : decode K.2.2.1 pc = .ok (.l2d, 1)) {x : Int} (k : MW K Qr mc ms (pc + 1) L ((3, ((FP.l2d (Int64.ofInt x)).toNat : Int)) :: S) h) : MW K Qr mc ms pc L ((1, x) :: S) h :=
  m_st _ (fun oL o => mokS_cons.mpr ⟨mok_db _, (mokS_cons.mp o).2⟩) (fun ad p l e R s m args below meth c H locs cells slots Q ls hx hb hl hown hts oL oS kk => lv_l2d hx hb hd (by
    replace kk : W p l e R s m args below meth c H locs cells slots Q (F0 m (pc + 1) ls (.double (UInt64.ofNat (((FP.l2d (Int64.ofInt x)).toNat : Int)).toNat) :: mS ad S)) := kk
    rw [mDb] at kk
    exact kk)) k
theorem m_dcmp {op : CmpOp} (hd : decode K.2.2.1 pc = .ok (.dcmp op, 1)) {x y : Int} (k : MW K Qr mc ms (pc + 1) L ((0, (Op.cmpValue (FP.dcmp (dv x) (dv y)) op).toInt) :: S) h) : MW K Qr mc ms pc L ((3, y) :: (3, x) :: S) h :=
  m_st _ (fun oL o => mokS_i (mI_rng _) (mokS_cons.mp (mokS_cons.mp o).2).2) (fun ad p l e R s m args below meth c H locs cells slots Q ls hx hb hl hown hts oL oS kk => lv_dcmp hx hb hd (by
    replace kk : W p l e R s m args below meth c H locs cells slots Q (F0 m (pc + 1) ls (.int (Int32.ofInt (Op.cmpValue (FP.dcmp (dv x) (dv y)) op).toInt) :: mS ad S)) := kk
    rw [Int32.ofInt_toInt] at kk
    exact kk)) k
theorem cmpV_rng (x y : UInt64) (op : CmpOp) : -1 ≤ (Op.cmpValue (FP.dcmp x y) op).toInt ∧ (Op.cmpValue (FP.dcmp x y) op).toInt ≤ 1 := by
  generalize FP.dcmp x y = z
  rcases z with _ | z
  · cases op <;> decide +kernel
  · cases z <;> cases op <;> decide +kernel
theorem m_dconst0 (hd : decode K.2.2.1 pc = .ok (.dconst 0, 1)) (k : MW K Qr mc ms (pc + 1) L ((3, (FP.dconst0.toNat : Int)) :: S) h) : MW K Qr mc ms pc L S h :=
  m_st _ (fun oL o => mokS_cons.mpr ⟨mok_db _, o⟩) (fun ad p l e R s m args below meth c H locs cells slots Q ls hx hb hl hown hts oL oS kk => lv_dconst0 hx hb hd (by
    replace kk : W p l e R s m args below meth c H locs cells slots Q (F0 m (pc + 1) ls (.double (UInt64.ofNat ((FP.dconst0.toNat : Int)).toNat) :: mS ad S)) := kk
    rw [mDb] at kk
    exact kk)) k
theorem m_ldc2d {idx : Nat} {v : UInt64} (hd : decode K.2.2.1 pc = .ok (.ldc2_w idx, 3)) (hw : Cond.constantDouble K.2.1 idx v ∈ mTB) (k : MW K Qr mc ms (pc + 3) L ((3, (v.toNat : Int)) :: S) h) : MW K Qr mc ms pc L S h :=
  m_st _ (fun oL o => mokS_cons.mpr ⟨mok_db _, o⟩) (fun ad p l e R s m args below meth c H locs cells slots Q ls hx hb hl hown hts oL oS kk => lv_ldc2d hx hb hown (hts _ hw) hd (by
    replace kk : W p l e R s m args below meth c H locs cells slots Q (F0 m (pc + 3) ls (.double (UInt64.ofNat ((v.toNat : Int)).toNat) :: mS ad S)) := kk
    rw [mDb] at kk
    exact kk)) k
theorem m_dload {i : Nat} (hd : decode K.2.2.1 pc = .ok (.dload i, 2)) {x : Int} (hk : mlook L i = some (3, x)) (k : MW K Qr mc ms (pc + 2) L ((3, x) :: S) h) : MW K Qr mc ms pc L S h :=
  m_st _ (fun oL o => mokS_cons.mpr ⟨oL _ (mlook_mem hk), o⟩) (fun ad p l e R s m args below meth c H locs cells slots Q ls hx hb hl hown hts oL oS kk => lv_dload hx hb hd (mlook_at hl hk).1 kk) k
theorem m_dload_n {j : Fin 4} (hd : decode K.2.2.1 pc = .ok (.dload_n j, 1)) {x : Int} (hk : mlook L j = some (3, x)) (k : MW K Qr mc ms (pc + 1) L ((3, x) :: S) h) : MW K Qr mc ms pc L S h :=
  m_st _ (fun oL o => mokS_cons.mpr ⟨oL _ (mlook_mem hk), o⟩) (fun ad p l e R s m args below meth c H locs cells slots Q ls hx hb hl hown hts oL oS kk => lv_dload_n hx hb hd rfl (mlook_at hl hk).1 kk) k
end DB
