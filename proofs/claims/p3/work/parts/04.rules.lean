/-! rules: constants, locals, stack, arithmetic -/
def mlook (L : List (Nat × MV)) (i : Nat) : Option MV := match L with
  | [] => none
  | q :: L => if q.1 = i then some q.2 else mlook L i
def mcat (v : MV) : Nat := if v.1 = 0 ∨ v.1 = 2 then 1 else 2
def mput (L : List (Nat × MV)) (i : Nat) (v : MV) : List (Nat × MV) := (i, v) :: L.filter (fun q => !(q.1 == i) && !(q.1 + 1 == i && mcat q.2 == 2))
def mput2 (L : List (Nat × MV)) (i : Nat) (v : MV) : List (Nat × MV) := (i, v) :: L.filter (fun q => !(q.1 == i) && (!(q.1 == i + 1) && !(q.1 + 1 == i && mcat q.2 == 2)))
theorem mval_cat (ad : Nat → Nat) (v : MV) : (mval ad v).category = mcat v := by
  obtain ⟨t, x⟩ := v
  match t with
  | 0 => rfl
  | 1 => rfl
  | 2 =>
    show (if x < 0 then Value.null else .ref (ad x.toNat)).category = 1
    split <;> rfl
  | t + 3 => simp [mval, mcat, Value.category]
theorem mval_ref (ad : Nat → Nat) (x : Int) : mval ad (2, x) = va_rf (mref ad x) := by
  show (if x < 0 then Value.null else .ref (ad x.toNat)) = va_rf (if x < 0 then none else some (ad x.toNat))
  split <;> rfl
theorem mval_refP (ad : Nat → Nat) {x : Int} (h : 0 ≤ x) : mval ad (2, x) = .ref (ad x.toNat) := by
  show (if x < 0 then Value.null else .ref (ad x.toNat)) = _
  rw [if_neg (by omega)]
theorem mlook_mem {L : List (Nat × MV)} {i : Nat} {v : MV} (h : mlook L i = some v) : (i, v) ∈ L := by
  induction L with
  | nil => cases h
  | cons q L ih =>
    unfold mlook at h
    by_cases hq : q.1 = i
    · rw [if_pos hq] at h
      cases h
      rw [← hq]
      exact List.mem_cons_self
    · rw [if_neg hq] at h
      exact List.mem_cons_of_mem _ (ih h)
theorem mlook_at {ls : Array Slot} {nL : Nat} {ad : Nat → Nat} {L : List (Nat × MV)} {i : Nat} {v : MV} (hl : lv_has ls nL (mL ad L)) (h : mlook L i = some v) : ls[i]? = some (.val (mval ad v)) ∧ (i, v) ∈ L := by
  have key : (i, v) ∈ L := by
    clear hl
    induction L with
    | nil => cases h
    | cons q L ih =>
      unfold mlook at h
      by_cases hq : q.1 = i
      · rw [if_pos hq] at h
        cases h
        rw [← hq]
        exact List.mem_cons_self
      · rw [if_neg hq] at h
        exact List.mem_cons_of_mem _ (ih h)
  exact ⟨hl.2.2 (i, mval ad v) (List.mem_map.mpr ⟨(i, v), key, rfl⟩), key⟩
theorem mput_map (ad : Nat → Nat) (L : List (Nat × MV)) (i : Nat) (v : MV) : (i, mval ad v) :: (mL ad L).filter (fun q => !(q.1 == i) && !(q.1 + 1 == i && q.2.category == 2)) = mL ad (mput L i v) := by
  unfold mput mL
  rw [List.map_cons, List.filter_map]
  refine congrArg (fun z => _ :: List.map _ z) (List.filter_congr fun q _ => ?_)
  simp only [Function.comp, mval_cat]
theorem mput2_map (ad : Nat → Nat) (L : List (Nat × MV)) (i : Nat) (v : MV) : (i, mval ad v) :: (mL ad L).filter (fun q => !(q.1 == i) && (!(q.1 == i + 1) && !(q.1 + 1 == i && q.2.category == 2))) = mL ad (mput2 L i v) := by
  unfold mput2 mL
  rw [List.map_cons, List.filter_map]
  refine congrArg (fun z => _ :: List.map _ z) (List.filter_congr fun q _ => ?_)
  simp only [Function.comp, mval_cat]
theorem mokL_put {L : List (Nat × MV)} {i : Nat} {v : MV} (h : mokL L) (hv : mok v) : mokL (mput L i v) := mokL_cons.mpr ⟨hv, fun q hq => h q (List.mem_filter.mp hq).1⟩
theorem mokL_put2 {L : List (Nat × MV)} {i : Nat} {v : MV} (h : mokL L) (hv : mok v) : mokL (mput2 L i v) := mokL_cons.mpr ⟨hv, fun q hq => h q (List.mem_filter.mp hq).1⟩
theorem m_fin2 (n : Fin 2) : -9223372036854775808 ≤ ((n : Nat) : Int) ∧ ((n : Nat) : Int) ≤ 9223372036854775807 := by omega
theorem m_fin2o (n : Fin 2) : Int64.ofNat (n : Nat) = Int64.ofInt ((n : Nat) : Int) := Int64.ofInt_eq_ofNat.symm
section MR
variable {K : mK} {Qr : MO → MH → Prop} {mc ms pc : Nat} {L : List (Nat × MV)} {S S' : List MV} {h : MH}
theorem m_isub (pc' : Nat) (hd : decode K.2.2.1 pc = .ok (.isub, 1)) (hp : pc + 1 = pc') {x y : Int} (hr : -2147483648 ≤ (x - y) ∧ (x - y) ≤ 2147483647) (k : MW K Qr mc ms pc' L ((0, x - y) :: S) h) : MW K Qr mc ms pc L ((0, y) :: (0, x) :: S) h := by
  subst hp
  refine m_st _ (fun oL o => mokS_i (hr) ((mokS_cons.mp (mokS_cons.mp o).2).2)) (fun ad p l e R s m args below meth c H locs cells slots Q ls hx hb hl hown hts oL oS kk => lv_isub hx hb hd (by rw [← Int32.ofInt_sub]; exact kk)) k
theorem m_imul (pc' : Nat) (hd : decode K.2.2.1 pc = .ok (.imul, 1)) (hp : pc + 1 = pc') {x y : Int} (hr : -2147483648 ≤ (x * y) ∧ (x * y) ≤ 2147483647) (k : MW K Qr mc ms pc' L ((0, x * y) :: S) h) : MW K Qr mc ms pc L ((0, y) :: (0, x) :: S) h := by
  subst hp
  refine m_st _ (fun oL o => mokS_i (hr) ((mokS_cons.mp (mokS_cons.mp o).2).2)) (fun ad p l e R s m args below meth c H locs cells slots Q ls hx hb hl hown hts oL oS kk => lv_imul hx hb hd (by rw [← Int32.ofInt_mul]; exact kk)) k
theorem m_ladd (pc' : Nat) (hd : decode K.2.2.1 pc = .ok (.ladd, 1)) (hp : pc + 1 = pc') {x y : Int} (hr : -9223372036854775808 ≤ (x + y) ∧ (x + y) ≤ 9223372036854775807) (k : MW K Qr mc ms pc' L ((1, x + y) :: S) h) : MW K Qr mc ms pc L ((1, y) :: (1, x) :: S) h := by
  subst hp
  refine m_st _ (fun oL o => mokS_l (hr) ((mokS_cons.mp (mokS_cons.mp o).2).2)) (fun ad p l e R s m args below meth c H locs cells slots Q ls hx hb hl hown hts oL oS kk => lv_ladd hx hb hd (by rw [← Int64.ofInt_add]; exact kk)) k
theorem m_lsub (pc' : Nat) (hd : decode K.2.2.1 pc = .ok (.lsub, 1)) (hp : pc + 1 = pc') {x y : Int} (hr : -9223372036854775808 ≤ (x - y) ∧ (x - y) ≤ 9223372036854775807) (k : MW K Qr mc ms pc' L ((1, x - y) :: S) h) : MW K Qr mc ms pc L ((1, y) :: (1, x) :: S) h := by
  subst hp
  refine m_st _ (fun oL o => mokS_l (hr) ((mokS_cons.mp (mokS_cons.mp o).2).2)) (fun ad p l e R s m args below meth c H locs cells slots Q ls hx hb hl hown hts oL oS kk => lv_lsub hx hb hd (by rw [← Int64.ofInt_sub]; exact kk)) k
theorem m_lmul (pc' : Nat) (hd : decode K.2.2.1 pc = .ok (.lmul, 1)) (hp : pc + 1 = pc') {x y : Int} (hr : -9223372036854775808 ≤ (x * y) ∧ (x * y) ≤ 9223372036854775807) (k : MW K Qr mc ms pc' L ((1, x * y) :: S) h) : MW K Qr mc ms pc L ((1, y) :: (1, x) :: S) h := by
  subst hp
  refine m_st _ (fun oL o => mokS_l (hr) ((mokS_cons.mp (mokS_cons.mp o).2).2)) (fun ad p l e R s m args below meth c H locs cells slots Q ls hx hb hl hown hts oL oS kk => lv_lmul hx hb hd (by rw [← Int64.ofInt_mul]; exact kk)) k
theorem m_ineg (pc' : Nat) (hd : decode K.2.2.1 pc = .ok (.ineg, 1)) (hp : pc + 1 = pc') {x : Int} (hr : -2147483648 ≤ (-x) ∧ (-x) ≤ 2147483647) (k : MW K Qr mc ms pc' L ((0, -x) :: S) h) : MW K Qr mc ms pc L ((0, x) :: S) h := by
  subst hp
  refine m_st _ (fun oL o => mokS_i (hr) ((mokS_cons.mp o).2)) (fun ad p l e R s m args below meth c H locs cells slots Q ls hx hb hl hown hts oL oS kk => lv_ineg hx hb hd (by rw [← Int32.ofInt_neg]; exact kk)) k
theorem m_lneg (pc' : Nat) (hd : decode K.2.2.1 pc = .ok (.lneg, 1)) (hp : pc + 1 = pc') {x : Int} (hr : -9223372036854775808 ≤ (-x) ∧ (-x) ≤ 9223372036854775807) (k : MW K Qr mc ms pc' L ((1, -x) :: S) h) : MW K Qr mc ms pc L ((1, x) :: S) h := by
  subst hp
  refine m_st _ (fun oL o => mokS_l (hr) ((mokS_cons.mp o).2)) (fun ad p l e R s m args below meth c H locs cells slots Q ls hx hb hl hown hts oL oS kk => lv_lneg hx hb hd (by rw [← Int64.ofInt_neg]; exact kk)) k
theorem m_iaddW (pc' : Nat) (hd : decode K.2.2.1 pc = .ok (.iadd, 1)) (hp : pc + 1 = pc') {x y : Int} (k : MW K Qr mc ms pc' L ((0, (x + y).bmod 4294967296) :: S) h) : MW K Qr mc ms pc L ((0, y) :: (0, x) :: S) h := by
  subst hp
  refine m_st _ (fun oL o => mokS_i (mI_bm _) ((mokS_cons.mp (mokS_cons.mp o).2).2)) (fun ad p l e R s m args below meth c H locs cells slots Q ls hx hb hl hown hts oL oS kk => lv_iadd hx hb hd (by rw [← Int32.ofInt_add, ← mI_bmo]; exact kk)) k
theorem m_isubW (pc' : Nat) (hd : decode K.2.2.1 pc = .ok (.isub, 1)) (hp : pc + 1 = pc') {x y : Int} (k : MW K Qr mc ms pc' L ((0, (x - y).bmod 4294967296) :: S) h) : MW K Qr mc ms pc L ((0, y) :: (0, x) :: S) h := by
  subst hp
  refine m_st _ (fun oL o => mokS_i (mI_bm _) ((mokS_cons.mp (mokS_cons.mp o).2).2)) (fun ad p l e R s m args below meth c H locs cells slots Q ls hx hb hl hown hts oL oS kk => lv_isub hx hb hd (by rw [← Int32.ofInt_sub, ← mI_bmo]; exact kk)) k
theorem m_imulW (pc' : Nat) (hd : decode K.2.2.1 pc = .ok (.imul, 1)) (hp : pc + 1 = pc') {x y : Int} (k : MW K Qr mc ms pc' L ((0, (x * y).bmod 4294967296) :: S) h) : MW K Qr mc ms pc L ((0, y) :: (0, x) :: S) h := by
  subst hp
  refine m_st _ (fun oL o => mokS_i (mI_bm _) ((mokS_cons.mp (mokS_cons.mp o).2).2)) (fun ad p l e R s m args below meth c H locs cells slots Q ls hx hb hl hown hts oL oS kk => lv_imul hx hb hd (by rw [← Int32.ofInt_mul, ← mI_bmo]; exact kk)) k
theorem m_laddW (pc' : Nat) (hd : decode K.2.2.1 pc = .ok (.ladd, 1)) (hp : pc + 1 = pc') {x y : Int} (k : MW K Qr mc ms pc' L ((1, (x + y).bmod 18446744073709551616) :: S) h) : MW K Qr mc ms pc L ((1, y) :: (1, x) :: S) h := by
  subst hp
  refine m_st _ (fun oL o => mokS_l (mL_bm _) ((mokS_cons.mp (mokS_cons.mp o).2).2)) (fun ad p l e R s m args below meth c H locs cells slots Q ls hx hb hl hown hts oL oS kk => lv_ladd hx hb hd (by rw [← Int64.ofInt_add, ← mL_bmo]; exact kk)) k
theorem m_lsubW (pc' : Nat) (hd : decode K.2.2.1 pc = .ok (.lsub, 1)) (hp : pc + 1 = pc') {x y : Int} (k : MW K Qr mc ms pc' L ((1, (x - y).bmod 18446744073709551616) :: S) h) : MW K Qr mc ms pc L ((1, y) :: (1, x) :: S) h := by
  subst hp
  refine m_st _ (fun oL o => mokS_l (mL_bm _) ((mokS_cons.mp (mokS_cons.mp o).2).2)) (fun ad p l e R s m args below meth c H locs cells slots Q ls hx hb hl hown hts oL oS kk => lv_lsub hx hb hd (by rw [← Int64.ofInt_sub, ← mL_bmo]; exact kk)) k
theorem m_lmulW (pc' : Nat) (hd : decode K.2.2.1 pc = .ok (.lmul, 1)) (hp : pc + 1 = pc') {x y : Int} (k : MW K Qr mc ms pc' L ((1, (x * y).bmod 18446744073709551616) :: S) h) : MW K Qr mc ms pc L ((1, y) :: (1, x) :: S) h := by
  subst hp
  refine m_st _ (fun oL o => mokS_l (mL_bm _) ((mokS_cons.mp (mokS_cons.mp o).2).2)) (fun ad p l e R s m args below meth c H locs cells slots Q ls hx hb hl hown hts oL oS kk => lv_lmul hx hb hd (by rw [← Int64.ofInt_mul, ← mL_bmo]; exact kk)) k
theorem m_inegW (pc' : Nat) (hd : decode K.2.2.1 pc = .ok (.ineg, 1)) (hp : pc + 1 = pc') {x : Int} (k : MW K Qr mc ms pc' L ((0, (-x).bmod 4294967296) :: S) h) : MW K Qr mc ms pc L ((0, x) :: S) h := by
  subst hp
  refine m_st _ (fun oL o => mokS_i (mI_bm _) ((mokS_cons.mp o).2)) (fun ad p l e R s m args below meth c H locs cells slots Q ls hx hb hl hown hts oL oS kk => lv_ineg hx hb hd (by rw [← Int32.ofInt_neg, ← mI_bmo]; exact kk)) k
theorem m_lnegW (pc' : Nat) (hd : decode K.2.2.1 pc = .ok (.lneg, 1)) (hp : pc + 1 = pc') {x : Int} (k : MW K Qr mc ms pc' L ((1, (-x).bmod 18446744073709551616) :: S) h) : MW K Qr mc ms pc L ((1, x) :: S) h := by
  subst hp
  refine m_st _ (fun oL o => mokS_l (mL_bm _) ((mokS_cons.mp o).2)) (fun ad p l e R s m args below meth c H locs cells slots Q ls hx hb hl hown hts oL oS kk => lv_lneg hx hb hd (by rw [← Int64.ofInt_neg, ← mL_bmo]; exact kk)) k
theorem m_idiv (pc' : Nat) (hd : decode K.2.2.1 pc = .ok (.idiv, 1)) (hp : pc + 1 = pc') {x y : Int} (hy : y ≠ 0) (hr : -2147483648 ≤ (x.tdiv y) ∧ (x.tdiv y) ≤ 2147483647) (k : MW K Qr mc ms pc' L ((0, x.tdiv y) :: S) h) : MW K Qr mc ms pc L ((0, y) :: (0, x) :: S) h := by
  subst hp
  refine m_st _ (fun oL o => mokS_i (hr) ((mokS_cons.mp (mokS_cons.mp o).2).2)) (fun ad p l e R s m args below meth c H locs cells slots Q ls hx hb hl hown hts oL oS kk => lv_idiv hx hb hd (mI_ne0 (mok_i (mokS_cons.mp oS).1) hy) (by rw [← mI_tdiv (mok_i (mokS_cons.mp (mokS_cons.mp oS).2).1) (mok_i (mokS_cons.mp oS).1)]; exact kk)) k
theorem m_irem (pc' : Nat) (hd : decode K.2.2.1 pc = .ok (.irem, 1)) (hp : pc + 1 = pc') {x y : Int} (hy : y ≠ 0) (k : MW K Qr mc ms pc' L ((0, x.tmod y) :: S) h) : MW K Qr mc ms pc L ((0, y) :: (0, x) :: S) h := by
  subst hp
  refine m_st _ (fun oL o => mokS_i (mI_tmr (mok_i (mokS_cons.mp (mokS_cons.mp o).2).1)) ((mokS_cons.mp (mokS_cons.mp o).2).2)) (fun ad p l e R s m args below meth c H locs cells slots Q ls hx hb hl hown hts oL oS kk => lv_irem hx hb hd (mI_ne0 (mok_i (mokS_cons.mp oS).1) hy) (by rw [← mI_tmod (mok_i (mokS_cons.mp (mokS_cons.mp oS).2).1) (mok_i (mokS_cons.mp oS).1)]; exact kk)) k
theorem m_ldiv (pc' : Nat) (hd : decode K.2.2.1 pc = .ok (.ldiv, 1)) (hp : pc + 1 = pc') {x y : Int} (hy : y ≠ 0) (hr : -9223372036854775808 ≤ (x.tdiv y) ∧ (x.tdiv y) ≤ 9223372036854775807) (k : MW K Qr mc ms pc' L ((1, x.tdiv y) :: S) h) : MW K Qr mc ms pc L ((1, y) :: (1, x) :: S) h := by
  subst hp
  refine m_st _ (fun oL o => mokS_l (hr) ((mokS_cons.mp (mokS_cons.mp o).2).2)) (fun ad p l e R s m args below meth c H locs cells slots Q ls hx hb hl hown hts oL oS kk => lv_ldiv hx hb hd (mL_ne0 (mok_l (mokS_cons.mp oS).1) hy) (by rw [← mL_tdiv (mok_l (mokS_cons.mp (mokS_cons.mp oS).2).1) (mok_l (mokS_cons.mp oS).1)]; exact kk)) k
theorem m_lrem (pc' : Nat) (hd : decode K.2.2.1 pc = .ok (.lrem, 1)) (hp : pc + 1 = pc') {x y : Int} (hy : y ≠ 0) (k : MW K Qr mc ms pc' L ((1, x.tmod y) :: S) h) : MW K Qr mc ms pc L ((1, y) :: (1, x) :: S) h := by
  subst hp
  refine m_st _ (fun oL o => mokS_l (mL_tmr (mok_l (mokS_cons.mp (mokS_cons.mp o).2).1)) ((mokS_cons.mp (mokS_cons.mp o).2).2)) (fun ad p l e R s m args below meth c H locs cells slots Q ls hx hb hl hown hts oL oS kk => lv_lrem hx hb hd (mL_ne0 (mok_l (mokS_cons.mp oS).1) hy) (by rw [← mL_tmod (mok_l (mokS_cons.mp (mokS_cons.mp oS).2).1) (mok_l (mokS_cons.mp oS).1)]; exact kk)) k
theorem m_iand (pc' : Nat) (hd : decode K.2.2.1 pc = .ok (.iand, 1)) (hp : pc + 1 = pc') {x y : Int} (k : MW K Qr mc ms pc' L ((0, (Int32.ofInt x &&& Int32.ofInt y).toInt) :: S) h) : MW K Qr mc ms pc L ((0, y) :: (0, x) :: S) h := by
  subst hp
  refine m_st _ (fun oL o => mokS_i (mI_rng _) ((mokS_cons.mp (mokS_cons.mp o).2).2)) (fun ad p l e R s m args below meth c H locs cells slots Q ls hx hb hl hown hts oL oS kk => lv_iand hx hb hd (by rw [← Int32.ofInt_toInt (_ &&& _)]; exact kk)) k
theorem m_ior (pc' : Nat) (hd : decode K.2.2.1 pc = .ok (.ior, 1)) (hp : pc + 1 = pc') {x y : Int} (k : MW K Qr mc ms pc' L ((0, (Int32.ofInt x ||| Int32.ofInt y).toInt) :: S) h) : MW K Qr mc ms pc L ((0, y) :: (0, x) :: S) h := by
  subst hp
  refine m_st _ (fun oL o => mokS_i (mI_rng _) ((mokS_cons.mp (mokS_cons.mp o).2).2)) (fun ad p l e R s m args below meth c H locs cells slots Q ls hx hb hl hown hts oL oS kk => lv_ior hx hb hd (by rw [← Int32.ofInt_toInt (_ ||| _)]; exact kk)) k
theorem m_ixor (pc' : Nat) (hd : decode K.2.2.1 pc = .ok (.ixor, 1)) (hp : pc + 1 = pc') {x y : Int} (k : MW K Qr mc ms pc' L ((0, (Int32.ofInt x ^^^ Int32.ofInt y).toInt) :: S) h) : MW K Qr mc ms pc L ((0, y) :: (0, x) :: S) h := by
  subst hp
  refine m_st _ (fun oL o => mokS_i (mI_rng _) ((mokS_cons.mp (mokS_cons.mp o).2).2)) (fun ad p l e R s m args below meth c H locs cells slots Q ls hx hb hl hown hts oL oS kk => lv_ixor hx hb hd (by rw [← Int32.ofInt_toInt (_ ^^^ _)]; exact kk)) k
theorem m_land (pc' : Nat) (hd : decode K.2.2.1 pc = .ok (.land, 1)) (hp : pc + 1 = pc') {x y : Int} (k : MW K Qr mc ms pc' L ((1, (Int64.ofInt x &&& Int64.ofInt y).toInt) :: S) h) : MW K Qr mc ms pc L ((1, y) :: (1, x) :: S) h := by
  subst hp
  refine m_st _ (fun oL o => mokS_l (mL_rng _) ((mokS_cons.mp (mokS_cons.mp o).2).2)) (fun ad p l e R s m args below meth c H locs cells slots Q ls hx hb hl hown hts oL oS kk => lv_land hx hb hd (by rw [← Int64.ofInt_toInt (_ &&& _)]; exact kk)) k
theorem m_lor (pc' : Nat) (hd : decode K.2.2.1 pc = .ok (.lor, 1)) (hp : pc + 1 = pc') {x y : Int} (k : MW K Qr mc ms pc' L ((1, (Int64.ofInt x ||| Int64.ofInt y).toInt) :: S) h) : MW K Qr mc ms pc L ((1, y) :: (1, x) :: S) h := by
  subst hp
  refine m_st _ (fun oL o => mokS_l (mL_rng _) ((mokS_cons.mp (mokS_cons.mp o).2).2)) (fun ad p l e R s m args below meth c H locs cells slots Q ls hx hb hl hown hts oL oS kk => lv_lor hx hb hd (by rw [← Int64.ofInt_toInt (_ ||| _)]; exact kk)) k
theorem m_lxor (pc' : Nat) (hd : decode K.2.2.1 pc = .ok (.lxor, 1)) (hp : pc + 1 = pc') {x y : Int} (k : MW K Qr mc ms pc' L ((1, (Int64.ofInt x ^^^ Int64.ofInt y).toInt) :: S) h) : MW K Qr mc ms pc L ((1, y) :: (1, x) :: S) h := by
  subst hp
  refine m_st _ (fun oL o => mokS_l (mL_rng _) ((mokS_cons.mp (mokS_cons.mp o).2).2)) (fun ad p l e R s m args below meth c H locs cells slots Q ls hx hb hl hown hts oL oS kk => lv_lxor hx hb hd (by rw [← Int64.ofInt_toInt (_ ^^^ _)]; exact kk)) k
theorem m_ishl (pc' : Nat) (hd : decode K.2.2.1 pc = .ok (.ishl, 1)) (hp : pc + 1 = pc') {x y : Int} (k : MW K Qr mc ms pc' L ((0, (Int32.ofInt x <<< (Int32.ofInt y &&& 31)).toInt) :: S) h) : MW K Qr mc ms pc L ((0, y) :: (0, x) :: S) h := by
  subst hp
  refine m_st _ (fun oL o => mokS_i (mI_rng _) ((mokS_cons.mp (mokS_cons.mp o).2).2)) (fun ad p l e R s m args below meth c H locs cells slots Q ls hx hb hl hown hts oL oS kk => lv_ishl hx hb hd (by rw [← Int32.ofInt_toInt (_ <<< _)]; exact kk)) k
theorem m_ishr (pc' : Nat) (hd : decode K.2.2.1 pc = .ok (.ishr, 1)) (hp : pc + 1 = pc') {x y : Int} (k : MW K Qr mc ms pc' L ((0, (Int32.ofInt x >>> (Int32.ofInt y &&& 31)).toInt) :: S) h) : MW K Qr mc ms pc L ((0, y) :: (0, x) :: S) h := by
  subst hp
  refine m_st _ (fun oL o => mokS_i (mI_rng _) ((mokS_cons.mp (mokS_cons.mp o).2).2)) (fun ad p l e R s m args below meth c H locs cells slots Q ls hx hb hl hown hts oL oS kk => lv_ishr hx hb hd (by rw [← Int32.ofInt_toInt (_ >>> _)]; exact kk)) k
theorem m_lshl (pc' : Nat) (hd : decode K.2.2.1 pc = .ok (.lshl, 1)) (hp : pc + 1 = pc') {x y : Int} (k : MW K Qr mc ms pc' L ((1, (Int64.ofInt x <<< ((Int32.ofInt y).toInt64 &&& 63)).toInt) :: S) h) : MW K Qr mc ms pc L ((0, y) :: (1, x) :: S) h := by
  subst hp
  refine m_st _ (fun oL o => mokS_l (mL_rng _) ((mokS_cons.mp (mokS_cons.mp o).2).2)) (fun ad p l e R s m args below meth c H locs cells slots Q ls hx hb hl hown hts oL oS kk => lv_lshl hx hb hd (Int64.ofInt_toInt _).symm kk) k
theorem m_lshr (pc' : Nat) (hd : decode K.2.2.1 pc = .ok (.lshr, 1)) (hp : pc + 1 = pc') {x y : Int} (k : MW K Qr mc ms pc' L ((1, (Int64.ofInt x >>> ((Int32.ofInt y).toInt64 &&& 63)).toInt) :: S) h) : MW K Qr mc ms pc L ((0, y) :: (1, x) :: S) h := by
  subst hp
  refine m_st _ (fun oL o => mokS_l (mL_rng _) ((mokS_cons.mp (mokS_cons.mp o).2).2)) (fun ad p l e R s m args below meth c H locs cells slots Q ls hx hb hl hown hts oL oS kk => lv_lshr hx hb hd (Int64.ofInt_toInt _).symm kk) k
theorem m_lushr (pc' : Nat) (hd : decode K.2.2.1 pc = .ok (.lushr, 1)) (hp : pc + 1 = pc') {x y : Int} (k : MW K Qr mc ms pc' L ((1, ((Int64.ofInt x).toUInt64 >>> ((Int32.ofInt y).toInt64.toUInt64 &&& Int64.toUInt64 63)).toInt64.toInt) :: S) h) : MW K Qr mc ms pc L ((0, y) :: (1, x) :: S) h := by
  subst hp
  refine m_st _ (fun oL o => mokS_l (mL_rng _) ((mokS_cons.mp (mokS_cons.mp o).2).2)) (fun ad p l e R s m args below meth c H locs cells slots Q ls hx hb hl hown hts oL oS kk => lv_lushr hx hb hd (Int64.ofInt_toInt _).symm kk) k
theorem m_i2l (pc' : Nat) (hd : decode K.2.2.1 pc = .ok (.i2l, 1)) (hp : pc + 1 = pc') {x : Int} (k : MW K Qr mc ms pc' L ((1, x) :: S) h) : MW K Qr mc ms pc L ((0, x) :: S) h := by
  subst hp
  refine m_st _ (fun oL o => mokS_l (mI_L (mok_i (mokS_cons.mp o).1)) ((mokS_cons.mp o).2)) (fun ad p l e R s m args below meth c H locs cells slots Q ls hx hb hl hown hts oL oS kk => lv_i2l hx hb hd (mI_i2l (mok_i (mokS_cons.mp oS).1)) kk) k
theorem m_l2i (pc' : Nat) (hd : decode K.2.2.1 pc = .ok (.l2i, 1)) (hp : pc + 1 = pc') {x : Int} (hr : -2147483648 ≤ x ∧ x ≤ 2147483647) (k : MW K Qr mc ms pc' L ((0, x) :: S) h) : MW K Qr mc ms pc L ((1, x) :: S) h := by
  subst hp
  refine m_st _ (fun oL o => mokS_i (hr) ((mokS_cons.mp o).2)) (fun ad p l e R s m args below meth c H locs cells slots Q ls hx hb hl hown hts oL oS kk => lv_l2i hx hb hd Int64.toInt32_ofInt kk) k
theorem m_l2iW (pc' : Nat) (hd : decode K.2.2.1 pc = .ok (.l2i, 1)) (hp : pc + 1 = pc') {x : Int} (k : MW K Qr mc ms pc' L ((0, x.bmod 4294967296) :: S) h) : MW K Qr mc ms pc L ((1, x) :: S) h := by
  subst hp
  refine m_st _ (fun oL o => mokS_i (mI_bm _) ((mokS_cons.mp o).2)) (fun ad p l e R s m args below meth c H locs cells slots Q ls hx hb hl hown hts oL oS kk => lv_l2i hx hb hd (Int64.toInt32_ofInt.trans (mI_bmo _).symm) kk) k
theorem m_i2c (pc' : Nat) (hd : decode K.2.2.1 pc = .ok (.i2c, 1)) (hp : pc + 1 = pc') {x : Int} (h0 : 0 ≤ x) (h1 : x < 65536) (k : MW K Qr mc ms pc' L ((0, x) :: S) h) : MW K Qr mc ms pc L ((0, x) :: S) h := by
  subst hp
  refine m_st _ (fun oL o => o) (fun ad p l e R s m args below meth c H locs cells slots Q ls hx hb hl hown hts oL oS kk => lv_i2c hx hb hd (mI_i2c h0 h1) kk) k
theorem m_i2cW (pc' : Nat) (hd : decode K.2.2.1 pc = .ok (.i2c, 1)) (hp : pc + 1 = pc') {x : Int} (k : MW K Qr mc ms pc' L ((0, x % 65536) :: S) h) : MW K Qr mc ms pc L ((0, x) :: S) h := by
  subst hp
  refine m_st _ (fun oL o => mokS_i (mI_65536 _) ((mokS_cons.mp o).2)) (fun ad p l e R s m args below meth c H locs cells slots Q ls hx hb hl hown hts oL oS kk => lv_i2c hx hb hd (mI_i2cW (mok_i (mokS_cons.mp oS).1)) kk) k
theorem m_i2b (pc' : Nat) (hd : decode K.2.2.1 pc = .ok (.i2b, 1)) (hp : pc + 1 = pc') {x : Int} (h0 : -128 ≤ x) (h1 : x ≤ 127) (k : MW K Qr mc ms pc' L ((0, x) :: S) h) : MW K Qr mc ms pc L ((0, x) :: S) h := by
  subst hp
  refine m_st _ (fun oL o => o) (fun ad p l e R s m args below meth c H locs cells slots Q ls hx hb hl hown hts oL oS kk => lv_i2b hx hb hd (mI_i2b h0 h1) kk) k
theorem m_iconst (pc' : Nat) {n : Int} (hd : decode K.2.2.1 pc = .ok (.iconst n, 1)) (hp : pc + 1 = pc') (hr : -2147483648 ≤ n ∧ n ≤ 2147483647) (k : MW K Qr mc ms pc' L ((0, n) :: S) h) : MW K Qr mc ms pc L (S) h := by
  subst hp
  refine m_st _ (fun oL o => mokS_i (hr) (o)) (fun ad p l e R s m args below meth c H locs cells slots Q ls hx hb hl hown hts oL oS kk => lv_iconst hx hb hd rfl kk) k
theorem m_lconst (pc' : Nat) {n : Fin 2} (hd : decode K.2.2.1 pc = .ok (.lconst n, 1)) (hp : pc + 1 = pc') (k : MW K Qr mc ms pc' L ((1, (n : Nat)) :: S) h) : MW K Qr mc ms pc L (S) h := by
  subst hp
  refine m_st _ (fun oL o => mokS_l (m_fin2 n) (o)) (fun ad p l e R s m args below meth c H locs cells slots Q ls hx hb hl hown hts oL oS kk => lv_lconst hx hb hd (m_fin2o n) kk) k
theorem m_bipush (pc' : Nat) {n : Int} (hd : decode K.2.2.1 pc = .ok (.bipush n, 2)) (hp : pc + 2 = pc') (hr : -128 ≤ n ∧ n ≤ 127) (k : MW K Qr mc ms pc' L ((0, n) :: S) h) : MW K Qr mc ms pc L (S) h := by
  subst hp
  refine m_st _ (fun oL o => mokS_i (mI_8 hr) (o)) (fun ad p l e R s m args below meth c H locs cells slots Q ls hx hb hl hown hts oL oS kk => lv_bipush hx hb hd (mI_bip hr) kk) k
theorem m_sipush (pc' : Nat) {n : Int} (hd : decode K.2.2.1 pc = .ok (.sipush n, 3)) (hp : pc + 3 = pc') (hr : -32768 ≤ n ∧ n ≤ 32767) (k : MW K Qr mc ms pc' L ((0, n) :: S) h) : MW K Qr mc ms pc L (S) h := by
  subst hp
  refine m_st _ (fun oL o => mokS_i (mI_16 hr) (o)) (fun ad p l e R s m args below meth c H locs cells slots Q ls hx hb hl hown hts oL oS kk => lv_sipush hx hb hd (mI_sip hr) kk) k
theorem m_ldc (pc' : Nat) {idx : Nat} {n : Int} {v : Int32} (hd : decode K.2.2.1 pc = .ok (.ldc idx, 2)) (hp : pc + 2 = pc') (hw : Cond.constant K.2.1 idx v ∈ mTB) (hv : Int32.ofInt n = v) (hr : -2147483648 ≤ n ∧ n ≤ 2147483647) (k : MW K Qr mc ms pc' L ((0, n) :: S) h) : MW K Qr mc ms pc L (S) h := by
  subst hp
  refine m_st _ (fun oL o => mokS_i (hr) (o)) (fun ad p l e R s m args below meth c H locs cells slots Q ls hx hb hl hown hts oL oS kk => lv_ldc hx hb hown (hts _ hw) hd (by rw [← hv]; exact kk)) k
theorem m_ldc2 (pc' : Nat) {idx : Nat} {n : Int} {v : Int64} (hd : decode K.2.2.1 pc = .ok (.ldc2_w idx, 3)) (hp : pc + 3 = pc') (hw : Cond.constantLong K.2.1 idx v ∈ mTB) (hv : Int64.ofInt n = v) (hr : -9223372036854775808 ≤ n ∧ n ≤ 9223372036854775807) (k : MW K Qr mc ms pc' L ((1, n) :: S) h) : MW K Qr mc ms pc L (S) h := by
  subst hp
  refine m_st _ (fun oL o => mokS_l (hr) (o)) (fun ad p l e R s m args below meth c H locs cells slots Q ls hx hb hl hown hts oL oS kk => lv_ldc2 hx hb hown (hts _ hw) hd (by rw [← hv]; exact kk)) k
theorem m_iload (pc' : Nat) {i : Nat} (hd : decode K.2.2.1 pc = .ok (.iload i, 2)) (hp : pc + 2 = pc') {x : Int} (hk : mlook L i = some (0, x)) (k : MW K Qr mc ms pc' L ((0, x) :: S) h) : MW K Qr mc ms pc L (S) h := by
  subst hp
  refine m_st _ (fun oL o => mokS_cons.mpr ⟨oL _ (mlook_mem hk), o⟩) (fun ad p l e R s m args below meth c H locs cells slots Q ls hx hb hl hown hts oL oS kk => lv_iload hx hb hd (mlook_at hl hk).1 kk) k
theorem m_iload_n (pc' : Nat) {j : Fin 4} (hd : decode K.2.2.1 pc = .ok (.iload_n j, 1)) (hp : pc + 1 = pc') {x : Int} (hk : mlook L j = some (0, x)) (k : MW K Qr mc ms pc' L ((0, x) :: S) h) : MW K Qr mc ms pc L (S) h := by
  subst hp
  refine m_st _ (fun oL o => mokS_cons.mpr ⟨oL _ (mlook_mem hk), o⟩) (fun ad p l e R s m args below meth c H locs cells slots Q ls hx hb hl hown hts oL oS kk => lv_iload_n hx hb hd rfl (mlook_at hl hk).1 kk) k
theorem m_lload (pc' : Nat) {i : Nat} (hd : decode K.2.2.1 pc = .ok (.lload i, 2)) (hp : pc + 2 = pc') {x : Int} (hk : mlook L i = some (1, x)) (k : MW K Qr mc ms pc' L ((1, x) :: S) h) : MW K Qr mc ms pc L (S) h := by
  subst hp
  refine m_st _ (fun oL o => mokS_cons.mpr ⟨oL _ (mlook_mem hk), o⟩) (fun ad p l e R s m args below meth c H locs cells slots Q ls hx hb hl hown hts oL oS kk => lv_lload hx hb hd (mlook_at hl hk).1 kk) k
theorem m_lload_n (pc' : Nat) {j : Fin 4} (hd : decode K.2.2.1 pc = .ok (.lload_n j, 1)) (hp : pc + 1 = pc') {x : Int} (hk : mlook L j = some (1, x)) (k : MW K Qr mc ms pc' L ((1, x) :: S) h) : MW K Qr mc ms pc L (S) h := by
  subst hp
  refine m_st _ (fun oL o => mokS_cons.mpr ⟨oL _ (mlook_mem hk), o⟩) (fun ad p l e R s m args below meth c H locs cells slots Q ls hx hb hl hown hts oL oS kk => lv_lload_n hx hb hd rfl (mlook_at hl hk).1 kk) k
theorem m_aload (pc' : Nat) {i : Nat} (hd : decode K.2.2.1 pc = .ok (.aload i, 2)) (hp : pc + 2 = pc') {x : Int} (hk : mlook L i = some (2, x)) (h0 : 0 ≤ x) (k : MW K Qr mc ms pc' L ((2, x) :: S) h) : MW K Qr mc ms pc L (S) h := by
  subst hp
  refine m_st _ (fun oL o => mokS_cons.mpr ⟨oL _ (mlook_mem hk), o⟩) (fun ad p l e R s m args below meth c H locs cells slots Q ls hx hb hl hown hts oL oS kk => lv_aload hx hb hd (by rw [← mval_refP ad h0]; exact (mlook_at hl hk).1) (by rw [← mval_refP ad h0]; exact kk)) k
theorem m_aload_n (pc' : Nat) {j : Fin 4} (hd : decode K.2.2.1 pc = .ok (.aload_n j, 1)) (hp : pc + 1 = pc') {x : Int} (hk : mlook L j = some (2, x)) (h0 : 0 ≤ x) (k : MW K Qr mc ms pc' L ((2, x) :: S) h) : MW K Qr mc ms pc L (S) h := by
  subst hp
  refine m_st _ (fun oL o => mokS_cons.mpr ⟨oL _ (mlook_mem hk), o⟩) (fun ad p l e R s m args below meth c H locs cells slots Q ls hx hb hl hown hts oL oS kk => lv_aload_n hx hb hd rfl (by rw [← mval_refP ad h0]; exact (mlook_at hl hk).1) (by rw [← mval_refP ad h0]; exact kk)) k
theorem m_dup (pc' : Nat) (hd : decode K.2.2.1 pc = .ok (.dup, 1)) (hp : pc + 1 = pc') {v : MV} (h1 : mcat v = 1) (k : MW K Qr mc ms pc' L (v :: v :: S) h) : MW K Qr mc ms pc L (v :: S) h := by
  subst hp
  refine m_st _ (fun oL o => mokS_cons.mpr ⟨(mokS_cons.mp o).1, o⟩) (fun ad p l e R s m args below meth c H locs cells slots Q ls hx hb hl hown hts oL oS kk => lv_dup hx hb hd (by rw [mval_cat]; exact h1) kk) k
theorem m_pop (pc' : Nat) (hd : decode K.2.2.1 pc = .ok (.pop, 1)) (hp : pc + 1 = pc') {v : MV} (h1 : mcat v = 1) (k : MW K Qr mc ms pc' L (S) h) : MW K Qr mc ms pc L (v :: S) h := by
  subst hp
  refine m_st _ (fun oL o => (mokS_cons.mp o).2) (fun ad p l e R s m args below meth c H locs cells slots Q ls hx hb hl hown hts oL oS kk => lv_pop hx hb hd (by rw [mval_cat]; exact h1) kk) k
theorem m_pop2 (pc' : Nat) (hd : decode K.2.2.1 pc = .ok (.pop2, 1)) (hp : pc + 1 = pc') {v : MV} (h1 : mcat v = 2) (k : MW K Qr mc ms pc' L (S) h) : MW K Qr mc ms pc L (v :: S) h := by
  subst hp
  refine m_st _ (fun oL o => (mokS_cons.mp o).2) (fun ad p l e R s m args below meth c H locs cells slots Q ls hx hb hl hown hts oL oS kk => lv_pop2_2 hx hb hd (by rw [mval_cat]; exact h1) kk) k
theorem m_dup_x1 (pc' : Nat) (hd : decode K.2.2.1 pc = .ok (.dup_x1, 1)) (hp : pc + 1 = pc') {v w : MV} (h1 : mcat v = 1) (h2 : mcat w = 1) (k : MW K Qr mc ms pc' L (v :: w :: v :: S) h) : MW K Qr mc ms pc L (v :: w :: S) h := by
  subst hp
  refine m_st _ (fun oL o => mokS_cons.mpr ⟨(mokS_cons.mp o).1, mokS_cons.mpr ⟨(mokS_cons.mp (mokS_cons.mp o).2).1, mokS_cons.mpr ⟨(mokS_cons.mp o).1, (mokS_cons.mp (mokS_cons.mp o).2).2⟩⟩⟩) (fun ad p l e R s m args below meth c H locs cells slots Q ls hx hb hl hown hts oL oS kk => lv_dup_x1 hx hb hd (by rw [mval_cat]; exact h1) (by rw [mval_cat]; exact h2) kk) k
theorem m_dup_x2 (pc' : Nat) (hd : decode K.2.2.1 pc = .ok (.dup_x2, 1)) (hp : pc + 1 = pc') {v w u : MV} (h1 : mcat v = 1) (h2 : mcat w = 1) (h3 : mcat u = 1) (k : MW K Qr mc ms pc' L (v :: w :: u :: v :: S) h) : MW K Qr mc ms pc L (v :: w :: u :: S) h := by
  subst hp
  refine m_st _ (fun oL o => mokS_cons.mpr ⟨(mokS_cons.mp o).1, mokS_cons.mpr ⟨(mokS_cons.mp (mokS_cons.mp o).2).1, mokS_cons.mpr ⟨(mokS_cons.mp (mokS_cons.mp (mokS_cons.mp o).2).2).1, mokS_cons.mpr ⟨(mokS_cons.mp o).1, (mokS_cons.mp (mokS_cons.mp (mokS_cons.mp o).2).2).2⟩⟩⟩⟩) (fun ad p l e R s m args below meth c H locs cells slots Q ls hx hb hl hown hts oL oS kk => lv_dup_x2 hx hb hd (by rw [mval_cat]; exact h1) (by rw [mval_cat]; exact h2) (by rw [mval_cat]; exact h3) kk) k
theorem m_dup2 (pc' : Nat) (hd : decode K.2.2.1 pc = .ok (.dup2, 1)) (hp : pc + 1 = pc') {v w : MV} (h1 : mcat v = 1) (h2 : mcat w = 1) (k : MW K Qr mc ms pc' L (v :: w :: v :: w :: S) h) : MW K Qr mc ms pc L (v :: w :: S) h := by
  subst hp
  refine m_st _ (fun oL o => mokS_cons.mpr ⟨(mokS_cons.mp o).1, mokS_cons.mpr ⟨(mokS_cons.mp (mokS_cons.mp o).2).1, o⟩⟩) (fun ad p l e R s m args below meth c H locs cells slots Q ls hx hb hl hown hts oL oS kk => lv_dup2_11 hx hb hd (by rw [mval_cat]; exact h1) (by rw [mval_cat]; exact h2) kk) k
theorem m_dup2w (pc' : Nat) (hd : decode K.2.2.1 pc = .ok (.dup2, 1)) (hp : pc + 1 = pc') {v : MV} (h1 : mcat v = 2) (k : MW K Qr mc ms pc' L (v :: v :: S) h) : MW K Qr mc ms pc L (v :: S) h := by
  subst hp
  refine m_st _ (fun oL o => mokS_cons.mpr ⟨(mokS_cons.mp o).1, o⟩) (fun ad p l e R s m args below meth c H locs cells slots Q ls hx hb hl hown hts oL oS kk => lv_dup2_2 hx hb hd (by rw [mval_cat]; exact h1) kk) k
theorem m_goto (pc' : Nat) {off : Int} (hd : decode K.2.2.1 pc = .ok (.goto off, 3)) (ht : (pc : Int) + off = (pc' : Int)) (k : MW K Qr mc ms pc' L S h) : MW K Qr mc ms pc L S h :=
  m_st pc' (fun _ o => o) (fun ad p l e R s m args below meth c H locs cells slots Q ls hx hb hl hown hts oL oS kk => lv_goto hx hb hd ht kk) k
theorem m_if_eq (pc' pt : Nat) {off : Int} (hd : decode K.2.2.1 pc = .ok (.ifCond .eq off, 3)) (hp : pc + 3 = pc') (ht : (pc : Int) + off = (pt : Int)) {x : Int} (kt : x = 0 → MW K Qr mc ms pt L S h) (kf : ¬ (x = 0) → MW K Qr mc ms pc' L S h) : MW K Qr mc ms pc L ((0, x) :: S) h := by
  subst hp
  intro D a s0 p l e R s m args below meth c H locs cells slots MC MS Q ls C F P SS hl oL oS hc hs
  have ox := mok_i (mokS_cons.mp oS).1
  refine lv_if_eq C.1 C.2.1 hd ht (fun q => kt ?_ D a s0 p l e R s m args below meth c H locs cells slots MC MS Q ls C F P SS hl oL (mokS_cons.mp oS).2 hc hs) (fun q => kf ?_ D a s0 p l e R s m args below meth c H locs cells slots MC MS Q ls C F P SS hl oL (mokS_cons.mp oS).2 hc hs)
  · exact (mI_eq0 ox).mp q
  · exact fun z => q ((mI_eq0 ox).mpr z)
theorem m_ic_eq (pc' pt : Nat) {off : Int} (hd : decode K.2.2.1 pc = .ok (.if_icmp .eq off, 3)) (hp : pc + 3 = pc') (ht : (pc : Int) + off = (pt : Int)) {x y : Int} (kt : x = y → MW K Qr mc ms pt L S h) (kf : ¬ (x = y) → MW K Qr mc ms pc' L S h) : MW K Qr mc ms pc L ((0, y) :: (0, x) :: S) h := by
  subst hp
  intro D a s0 p l e R s m args below meth c H locs cells slots MC MS Q ls C F P SS hl oL oS hc hs
  have oy := mok_i (mokS_cons.mp oS).1
  have ox := mok_i (mokS_cons.mp (mokS_cons.mp oS).2).1
  have o2 := (mokS_cons.mp (mokS_cons.mp oS).2).2
  refine lv_icmp_eq C.1 C.2.1 hd ht (fun q => kt ?_ D a s0 p l e R s m args below meth c H locs cells slots MC MS Q ls C F P SS hl oL o2 hc hs) (fun q => kf ?_ D a s0 p l e R s m args below meth c H locs cells slots MC MS Q ls C F P SS hl oL o2 hc hs)
  · exact (mI_eq ox oy).mp q
  · exact fun z => q ((mI_eq ox oy).mpr z)
theorem m_if_ne (pc' pt : Nat) {off : Int} (hd : decode K.2.2.1 pc = .ok (.ifCond .ne off, 3)) (hp : pc + 3 = pc') (ht : (pc : Int) + off = (pt : Int)) {x : Int} (kt : x ≠ 0 → MW K Qr mc ms pt L S h) (kf : x = 0 → MW K Qr mc ms pc' L S h) : MW K Qr mc ms pc L ((0, x) :: S) h := by
  subst hp
  intro D a s0 p l e R s m args below meth c H locs cells slots MC MS Q ls C F P SS hl oL oS hc hs
  have ox := mok_i (mokS_cons.mp oS).1
  refine lv_if_ne C.1 C.2.1 hd ht (fun q => kt ?_ D a s0 p l e R s m args below meth c H locs cells slots MC MS Q ls C F P SS hl oL (mokS_cons.mp oS).2 hc hs) (fun q => kf ?_ D a s0 p l e R s m args below meth c H locs cells slots MC MS Q ls C F P SS hl oL (mokS_cons.mp oS).2 hc hs)
  · exact (mI_neq0 ox).mp q
  · exact (mI_eq0 ox).mp q
theorem m_ic_ne (pc' pt : Nat) {off : Int} (hd : decode K.2.2.1 pc = .ok (.if_icmp .ne off, 3)) (hp : pc + 3 = pc') (ht : (pc : Int) + off = (pt : Int)) {x y : Int} (kt : x ≠ y → MW K Qr mc ms pt L S h) (kf : x = y → MW K Qr mc ms pc' L S h) : MW K Qr mc ms pc L ((0, y) :: (0, x) :: S) h := by
  subst hp
  intro D a s0 p l e R s m args below meth c H locs cells slots MC MS Q ls C F P SS hl oL oS hc hs
  have oy := mok_i (mokS_cons.mp oS).1
  have ox := mok_i (mokS_cons.mp (mokS_cons.mp oS).2).1
  have o2 := (mokS_cons.mp (mokS_cons.mp oS).2).2
  refine lv_icmp_ne C.1 C.2.1 hd ht (fun q => kt ?_ D a s0 p l e R s m args below meth c H locs cells slots MC MS Q ls C F P SS hl oL o2 hc hs) (fun q => kf ?_ D a s0 p l e R s m args below meth c H locs cells slots MC MS Q ls C F P SS hl oL o2 hc hs)
  · exact (mI_ne ox oy).mp q
  · exact (mI_eq ox oy).mp q
theorem m_if_lt (pc' pt : Nat) {off : Int} (hd : decode K.2.2.1 pc = .ok (.ifCond .lt off, 3)) (hp : pc + 3 = pc') (ht : (pc : Int) + off = (pt : Int)) {x : Int} (kt : x < 0 → MW K Qr mc ms pt L S h) (kf : ¬ (x < 0) → MW K Qr mc ms pc' L S h) : MW K Qr mc ms pc L ((0, x) :: S) h := by
  subst hp
  intro D a s0 p l e R s m args below meth c H locs cells slots MC MS Q ls C F P SS hl oL oS hc hs
  have ox := mok_i (mokS_cons.mp oS).1
  refine lv_if_lt C.1 C.2.1 hd ht (fun q => kt ?_ D a s0 p l e R s m args below meth c H locs cells slots MC MS Q ls C F P SS hl oL (mokS_cons.mp oS).2 hc hs) (fun q => kf ?_ D a s0 p l e R s m args below meth c H locs cells slots MC MS Q ls C F P SS hl oL (mokS_cons.mp oS).2 hc hs)
  · exact (mI_lt0 ox).mp q
  · exact fun z => q ((mI_lt0 ox).mpr z)
theorem m_ic_lt (pc' pt : Nat) {off : Int} (hd : decode K.2.2.1 pc = .ok (.if_icmp .lt off, 3)) (hp : pc + 3 = pc') (ht : (pc : Int) + off = (pt : Int)) {x y : Int} (kt : x < y → MW K Qr mc ms pt L S h) (kf : ¬ (x < y) → MW K Qr mc ms pc' L S h) : MW K Qr mc ms pc L ((0, y) :: (0, x) :: S) h := by
  subst hp
  intro D a s0 p l e R s m args below meth c H locs cells slots MC MS Q ls C F P SS hl oL oS hc hs
  have oy := mok_i (mokS_cons.mp oS).1
  have ox := mok_i (mokS_cons.mp (mokS_cons.mp oS).2).1
  have o2 := (mokS_cons.mp (mokS_cons.mp oS).2).2
  refine lv_icmp_lt C.1 C.2.1 hd ht (fun q => kt ?_ D a s0 p l e R s m args below meth c H locs cells slots MC MS Q ls C F P SS hl oL o2 hc hs) (fun q => kf ?_ D a s0 p l e R s m args below meth c H locs cells slots MC MS Q ls C F P SS hl oL o2 hc hs)
  · exact (mI_lt ox oy).mp q
  · exact fun z => q ((mI_lt ox oy).mpr z)
theorem m_if_ge (pc' pt : Nat) {off : Int} (hd : decode K.2.2.1 pc = .ok (.ifCond .ge off, 3)) (hp : pc + 3 = pc') (ht : (pc : Int) + off = (pt : Int)) {x : Int} (kt : 0 ≤ x → MW K Qr mc ms pt L S h) (kf : ¬ (0 ≤ x) → MW K Qr mc ms pc' L S h) : MW K Qr mc ms pc L ((0, x) :: S) h := by
  subst hp
  intro D a s0 p l e R s m args below meth c H locs cells slots MC MS Q ls C F P SS hl oL oS hc hs
  have ox := mok_i (mokS_cons.mp oS).1
  refine lv_if_ge C.1 C.2.1 hd ht (fun q => kt ?_ D a s0 p l e R s m args below meth c H locs cells slots MC MS Q ls C F P SS hl oL (mokS_cons.mp oS).2 hc hs) (fun q => kf ?_ D a s0 p l e R s m args below meth c H locs cells slots MC MS Q ls C F P SS hl oL (mokS_cons.mp oS).2 hc hs)
  · exact (mI_ge0 ox).mp q
  · exact fun z => q ((mI_ge0 ox).mpr z)
theorem m_ic_ge (pc' pt : Nat) {off : Int} (hd : decode K.2.2.1 pc = .ok (.if_icmp .ge off, 3)) (hp : pc + 3 = pc') (ht : (pc : Int) + off = (pt : Int)) {x y : Int} (kt : y ≤ x → MW K Qr mc ms pt L S h) (kf : ¬ (y ≤ x) → MW K Qr mc ms pc' L S h) : MW K Qr mc ms pc L ((0, y) :: (0, x) :: S) h := by
  subst hp
  intro D a s0 p l e R s m args below meth c H locs cells slots MC MS Q ls C F P SS hl oL oS hc hs
  have oy := mok_i (mokS_cons.mp oS).1
  have ox := mok_i (mokS_cons.mp (mokS_cons.mp oS).2).1
  have o2 := (mokS_cons.mp (mokS_cons.mp oS).2).2
  refine lv_icmp_ge C.1 C.2.1 hd ht (fun q => kt ?_ D a s0 p l e R s m args below meth c H locs cells slots MC MS Q ls C F P SS hl oL o2 hc hs) (fun q => kf ?_ D a s0 p l e R s m args below meth c H locs cells slots MC MS Q ls C F P SS hl oL o2 hc hs)
  · exact (mI_ge ox oy).mp q
  · exact fun z => q ((mI_ge ox oy).mpr z)
theorem m_if_gt (pc' pt : Nat) {off : Int} (hd : decode K.2.2.1 pc = .ok (.ifCond .gt off, 3)) (hp : pc + 3 = pc') (ht : (pc : Int) + off = (pt : Int)) {x : Int} (kt : 0 < x → MW K Qr mc ms pt L S h) (kf : ¬ (0 < x) → MW K Qr mc ms pc' L S h) : MW K Qr mc ms pc L ((0, x) :: S) h := by
  subst hp
  intro D a s0 p l e R s m args below meth c H locs cells slots MC MS Q ls C F P SS hl oL oS hc hs
  have ox := mok_i (mokS_cons.mp oS).1
  refine lv_if_gt C.1 C.2.1 hd ht (fun q => kt ?_ D a s0 p l e R s m args below meth c H locs cells slots MC MS Q ls C F P SS hl oL (mokS_cons.mp oS).2 hc hs) (fun q => kf ?_ D a s0 p l e R s m args below meth c H locs cells slots MC MS Q ls C F P SS hl oL (mokS_cons.mp oS).2 hc hs)
  · exact (mI_gt0 ox).mp q
  · exact fun z => q ((mI_gt0 ox).mpr z)
theorem m_ic_gt (pc' pt : Nat) {off : Int} (hd : decode K.2.2.1 pc = .ok (.if_icmp .gt off, 3)) (hp : pc + 3 = pc') (ht : (pc : Int) + off = (pt : Int)) {x y : Int} (kt : y < x → MW K Qr mc ms pt L S h) (kf : ¬ (y < x) → MW K Qr mc ms pc' L S h) : MW K Qr mc ms pc L ((0, y) :: (0, x) :: S) h := by
  subst hp
  intro D a s0 p l e R s m args below meth c H locs cells slots MC MS Q ls C F P SS hl oL oS hc hs
  have oy := mok_i (mokS_cons.mp oS).1
  have ox := mok_i (mokS_cons.mp (mokS_cons.mp oS).2).1
  have o2 := (mokS_cons.mp (mokS_cons.mp oS).2).2
  refine lv_icmp_gt C.1 C.2.1 hd ht (fun q => kt ?_ D a s0 p l e R s m args below meth c H locs cells slots MC MS Q ls C F P SS hl oL o2 hc hs) (fun q => kf ?_ D a s0 p l e R s m args below meth c H locs cells slots MC MS Q ls C F P SS hl oL o2 hc hs)
  · exact (mI_gt ox oy).mp q
  · exact fun z => q ((mI_gt ox oy).mpr z)
theorem m_if_le (pc' pt : Nat) {off : Int} (hd : decode K.2.2.1 pc = .ok (.ifCond .le off, 3)) (hp : pc + 3 = pc') (ht : (pc : Int) + off = (pt : Int)) {x : Int} (kt : x ≤ 0 → MW K Qr mc ms pt L S h) (kf : ¬ (x ≤ 0) → MW K Qr mc ms pc' L S h) : MW K Qr mc ms pc L ((0, x) :: S) h := by
  subst hp
  intro D a s0 p l e R s m args below meth c H locs cells slots MC MS Q ls C F P SS hl oL oS hc hs
  have ox := mok_i (mokS_cons.mp oS).1
  refine lv_if_le C.1 C.2.1 hd ht (fun q => kt ?_ D a s0 p l e R s m args below meth c H locs cells slots MC MS Q ls C F P SS hl oL (mokS_cons.mp oS).2 hc hs) (fun q => kf ?_ D a s0 p l e R s m args below meth c H locs cells slots MC MS Q ls C F P SS hl oL (mokS_cons.mp oS).2 hc hs)
  · exact (mI_le0 ox).mp q
  · exact fun z => q ((mI_le0 ox).mpr z)
theorem m_ic_le (pc' pt : Nat) {off : Int} (hd : decode K.2.2.1 pc = .ok (.if_icmp .le off, 3)) (hp : pc + 3 = pc') (ht : (pc : Int) + off = (pt : Int)) {x y : Int} (kt : x ≤ y → MW K Qr mc ms pt L S h) (kf : ¬ (x ≤ y) → MW K Qr mc ms pc' L S h) : MW K Qr mc ms pc L ((0, y) :: (0, x) :: S) h := by
  subst hp
  intro D a s0 p l e R s m args below meth c H locs cells slots MC MS Q ls C F P SS hl oL oS hc hs
  have oy := mok_i (mokS_cons.mp oS).1
  have ox := mok_i (mokS_cons.mp (mokS_cons.mp oS).2).1
  have o2 := (mokS_cons.mp (mokS_cons.mp oS).2).2
  refine lv_icmp_le C.1 C.2.1 hd ht (fun q => kt ?_ D a s0 p l e R s m args below meth c H locs cells slots MC MS Q ls C F P SS hl oL o2 hc hs) (fun q => kf ?_ D a s0 p l e R s m args below meth c H locs cells slots MC MS Q ls C F P SS hl oL o2 hc hs)
  · exact (mI_le ox oy).mp q
  · exact fun z => q ((mI_le ox oy).mpr z)
theorem m_istore (pc' : Nat) {i : Nat} (hd : decode K.2.2.1 pc = .ok (.istore i, 2)) (hp : pc + 2 = pc') (hi : i < K.2.2.2.1) {x : Int} (k : MW K Qr mc ms pc' (mput L i (0, x)) S h) : MW K Qr mc ms pc L ((0, x) :: S) h := by
  subst hp
  intro D a s0 p l e R s m args below meth c H locs cells slots MC MS Q ls C F P SS hl oL oS hc hs
  have hm := mput_map (mad a s0) L i (0, x)
  exact lv_istore C.1 C.2.1 hd hl hi hm (fun ls' hl' => k D a s0 p l e R s m args below meth c H locs cells slots MC MS Q ls' C F P SS hl' (mokL_put oL (mokS_cons.mp oS).1) (mokS_cons.mp oS).2 hc hs)
theorem m_istore_n (pc' : Nat) {j : Fin 4} {i : Nat} (hj : (j : Nat) = i) (hd : decode K.2.2.1 pc = .ok (.istore_n j, 1)) (hp : pc + 1 = pc') (hi : i < K.2.2.2.1) {x : Int} (k : MW K Qr mc ms pc' (mput L i (0, x)) S h) : MW K Qr mc ms pc L ((0, x) :: S) h := by
  subst hp
  intro D a s0 p l e R s m args below meth c H locs cells slots MC MS Q ls C F P SS hl oL oS hc hs
  have hm := mput_map (mad a s0) L i (0, x)
  exact lv_istore_n C.1 C.2.1 hd hj hl hi hm (fun ls' hl' => k D a s0 p l e R s m args below meth c H locs cells slots MC MS Q ls' C F P SS hl' (mokL_put oL (mokS_cons.mp oS).1) (mokS_cons.mp oS).2 hc hs)
theorem m_lstore (pc' : Nat) {i : Nat} (hd : decode K.2.2.1 pc = .ok (.lstore i, 2)) (hp : pc + 2 = pc') (hi : i + 1 < K.2.2.2.1) {x : Int} (k : MW K Qr mc ms pc' (mput2 L i (1, x)) S h) : MW K Qr mc ms pc L ((1, x) :: S) h := by
  subst hp
  intro D a s0 p l e R s m args below meth c H locs cells slots MC MS Q ls C F P SS hl oL oS hc hs
  have hm := mput2_map (mad a s0) L i (1, x)
  exact lv_lstore C.1 C.2.1 hd hl hi hm (fun ls' hl' => k D a s0 p l e R s m args below meth c H locs cells slots MC MS Q ls' C F P SS hl' (mokL_put2 oL (mokS_cons.mp oS).1) (mokS_cons.mp oS).2 hc hs)
theorem m_lstore_n (pc' : Nat) {j : Fin 4} {i : Nat} (hj : (j : Nat) = i) (hd : decode K.2.2.1 pc = .ok (.lstore_n j, 1)) (hp : pc + 1 = pc') (hi : i + 1 < K.2.2.2.1) {x : Int} (k : MW K Qr mc ms pc' (mput2 L i (1, x)) S h) : MW K Qr mc ms pc L ((1, x) :: S) h := by
  subst hp
  intro D a s0 p l e R s m args below meth c H locs cells slots MC MS Q ls C F P SS hl oL oS hc hs
  have hm := mput2_map (mad a s0) L i (1, x)
  exact lv_lstore_n C.1 C.2.1 hd hj hl hi hm (fun ls' hl' => k D a s0 p l e R s m args below meth c H locs cells slots MC MS Q ls' C F P SS hl' (mokL_put2 oL (mokS_cons.mp oS).1) (mokS_cons.mp oS).2 hc hs)
theorem m_astore (pc' : Nat) {i : Nat} (hd : decode K.2.2.1 pc = .ok (.astore i, 2)) (hp : pc + 2 = pc') (hi : i < K.2.2.2.1) {x : Int} (h0 : 0 ≤ x) (k : MW K Qr mc ms pc' (mput L i (2, x)) S h) : MW K Qr mc ms pc L ((2, x) :: S) h := by
  subst hp
  intro D a s0 p l e R s m args below meth c H locs cells slots MC MS Q ls C F P SS hl oL oS hc hs
  have hm := mput_map (mad a s0) L i (2, x)
  rw [mval_refP (mad a s0) h0] at hm
  show W p l e R s m args below meth c H locs cells slots Q (F0 m pc ls (mval (mad a s0) (2, x) :: mS (mad a s0) S))
  rw [mval_refP (mad a s0) h0]
  exact lv_astore C.1 C.2.1 hd hl hi hm (fun ls' hl' => k D a s0 p l e R s m args below meth c H locs cells slots MC MS Q ls' C F P SS hl' (mokL_put oL (mokS_cons.mp oS).1) (mokS_cons.mp oS).2 hc hs)
theorem m_astore_n (pc' : Nat) {j : Fin 4} {i : Nat} (hj : (j : Nat) = i) (hd : decode K.2.2.1 pc = .ok (.astore_n j, 1)) (hp : pc + 1 = pc') (hi : i < K.2.2.2.1) {x : Int} (h0 : 0 ≤ x) (k : MW K Qr mc ms pc' (mput L i (2, x)) S h) : MW K Qr mc ms pc L ((2, x) :: S) h := by
  subst hp
  intro D a s0 p l e R s m args below meth c H locs cells slots MC MS Q ls C F P SS hl oL oS hc hs
  have hm := mput_map (mad a s0) L i (2, x)
  rw [mval_refP (mad a s0) h0] at hm
  show W p l e R s m args below meth c H locs cells slots Q (F0 m pc ls (mval (mad a s0) (2, x) :: mS (mad a s0) S))
  rw [mval_refP (mad a s0) h0]
  exact lv_astore_n C.1 C.2.1 hd hj hl hi hm (fun ls' hl' => k D a s0 p l e R s m args below meth c H locs cells slots MC MS Q ls' C F P SS hl' (mokL_put oL (mokS_cons.mp oS).1) (mokS_cons.mp oS).2 hc hs)
theorem m_dstore (pc' : Nat) {i : Nat} (hd : decode K.2.2.1 pc = .ok (.dstore i, 2)) (hp : pc + 2 = pc') (hi : i + 1 < K.2.2.2.1) {x : Int} (k : MW K Qr mc ms pc' (mput2 L i (3, x)) S h) : MW K Qr mc ms pc L ((3, x) :: S) h := by
  subst hp
  intro D a s0 p l e R s m args below meth c H locs cells slots MC MS Q ls C F P SS hl oL oS hc hs
  have hm := mput2_map (mad a s0) L i (3, x)
  exact lv_dstore C.1 C.2.1 hd hl hi hm (fun ls' hl' => k D a s0 p l e R s m args below meth c H locs cells slots MC MS Q ls' C F P SS hl' (mokL_put2 oL (mokS_cons.mp oS).1) (mokS_cons.mp oS).2 hc hs)
theorem m_dstore_n (pc' : Nat) {j : Fin 4} {i : Nat} (hj : (j : Nat) = i) (hd : decode K.2.2.1 pc = .ok (.dstore_n j, 1)) (hp : pc + 1 = pc') (hi : i + 1 < K.2.2.2.1) {x : Int} (k : MW K Qr mc ms pc' (mput2 L i (3, x)) S h) : MW K Qr mc ms pc L ((3, x) :: S) h := by
  subst hp
  intro D a s0 p l e R s m args below meth c H locs cells slots MC MS Q ls C F P SS hl oL oS hc hs
  have hm := mput2_map (mad a s0) L i (3, x)
  exact lv_dstore_n C.1 C.2.1 hd hj hl hi hm (fun ls' hl' => k D a s0 p l e R s m args below meth c H locs cells slots MC MS Q ls' C F P SS hl' (mokL_put2 oL (mokS_cons.mp oS).1) (mokS_cons.mp oS).2 hc hs)
theorem m_iinc (pc' : Nat) {i : Nat} {n : Int} (hd : decode K.2.2.1 pc = .ok (.iinc i n, 3)) (hp : pc + 3 = pc') (hi : i < K.2.2.2.1) {x : Int} (hk : mlook L i = some (0, x)) (hr : -2147483648 ≤ x + n ∧ x + n ≤ 2147483647) (k : MW K Qr mc ms pc' (mput L i (0, x + n)) S h) : MW K Qr mc ms pc L S h := by
  subst hp
  intro D a s0 p l e R s m args below meth c H locs cells slots MC MS Q ls C F P SS hl oL oS hc hs
  have hm := mput_map (mad a s0) L i (0, x + n)
  obtain ⟨j, hj⟩ := List.getElem?_of_mem (List.mem_map.mpr ⟨(i, (0, x)), mlook_mem hk, rfl⟩ : (i, mval (mad a s0) (0, x)) ∈ mL (mad a s0) L)
  exact lv_iinc C.1 C.2.1 hd hl hj (Int32.ofInt_add x n).symm hi hm (fun ls' hl' => k D a s0 p l e R s m args below meth c H locs cells slots MC MS Q ls' C F P SS hl' (mokL_put oL hr) oS hc hs)
theorem m_iincW (pc' : Nat) {i : Nat} {n : Int} (hd : decode K.2.2.1 pc = .ok (.iinc i n, 3)) (hp : pc + 3 = pc') (hi : i < K.2.2.2.1) {x : Int} (hk : mlook L i = some (0, x)) (k : MW K Qr mc ms pc' (mput L i (0, (x + n).bmod 4294967296)) S h) : MW K Qr mc ms pc L S h := by
  subst hp
  intro D a s0 p l e R s m args below meth c H locs cells slots MC MS Q ls C F P SS hl oL oS hc hs
  have hm := mput_map (mad a s0) L i (0, (x + n).bmod 4294967296)
  obtain ⟨j, hj⟩ := List.getElem?_of_mem (List.mem_map.mpr ⟨(i, (0, x)), mlook_mem hk, rfl⟩ : (i, mval (mad a s0) (0, x)) ∈ mL (mad a s0) L)
  exact lv_iinc C.1 C.2.1 hd hl hj ((Int32.ofInt_add x n).symm.trans (mI_bmo _).symm) hi hm (fun ls' hl' => k D a s0 p l e R s m args below meth c H locs cells slots MC MS Q ls' C F P SS hl' (mokL_put oL (mI_bm _)) oS hc hs)
end MR
