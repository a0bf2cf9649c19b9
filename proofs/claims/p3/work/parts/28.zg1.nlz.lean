/-! X1: the JDK method that counts leading zeros; rules: length of an array, least of two, fill, copy -/
theorem ushr_k {x : Int} {y : Int} {k : Nat} (hx : 0 ≤ x ∧ x ≤ 2147483647) (e : ((Int32.ofInt y).toUInt32 &&& Int32.toUInt32 31).toBitVec.toNat % 32 = k) : ((Int32.ofInt x).toUInt32 >>> ((Int32.ofInt y).toUInt32 &&& Int32.toUInt32 31)).toInt32.toInt = x / 2 ^ k := by
  have h1 : ((Int32.ofInt x).toUInt32 >>> ((Int32.ofInt y).toUInt32 &&& Int32.toUInt32 31)).toNat = x.toNat / 2 ^ k := by
    rw [UInt32.toNat_shiftRight, Nat.shiftRight_eq_div_pow]
    have a : (Int32.ofInt x).toUInt32.toNat = x.toNat := by
      show (BitVec.ofInt 32 x).toNat = x.toNat
      rw [BitVec.toNat_ofInt]
      omega
    have b : ((Int32.ofInt y).toUInt32 &&& Int32.toUInt32 31).toNat % 32 = k := e
    rw [a, b]
  have h2 : x.toNat / 2 ^ k < 2 ^ 31 := Nat.lt_of_le_of_lt (Nat.div_le_self _ _) (by omega)
  have h3 : ((Int32.ofInt x).toUInt32 >>> ((Int32.ofInt y).toUInt32 &&& Int32.toUInt32 31)).toInt32.toInt = ((x.toNat / 2 ^ k : Nat) : Int) := by
    rw [← h1]
    show (((Int32.ofInt x).toUInt32 >>> ((Int32.ofInt y).toUInt32 &&& Int32.toUInt32 31)).toBitVec).toInt = _
    rw [BitVec.toInt_eq_toNat_of_lt]
    · rfl
    · show 2 * ((Int32.ofInt x).toUInt32 >>> ((Int32.ofInt y).toUInt32 &&& Int32.toUInt32 31)).toNat < _
      rw [h1]
      omega
  rw [h3]
  have e3 : (x.toNat : Int) = x := Int.toNat_of_nonneg hx.1
  rw [Int.natCast_ediv, e3]
  rfl
section NZ
variable {K : mK} {Qr : MO → MH → Prop} {mc ms pc : Nat} {L : List (Nat × MV)} {S : List MV} {h : MH}
theorem m_iushr (pc' : Nat) (hd : decode K.2.2.1 pc = .ok (.iushr, 1)) (hp : pc + 1 = pc') {x y v : Int} (hv : ((Int32.ofInt x).toUInt32 >>> ((Int32.ofInt y).toUInt32 &&& Int32.toUInt32 31)).toInt32.toInt = v) (k : MW K Qr mc ms pc' L ((0, v) :: S) h) : MW K Qr mc ms pc L ((0, y) :: (0, x) :: S) h := by
  subst hp
  subst hv
  refine m_st _ (fun oL o => mokS_i (mI_rng _) ((mokS_cons.mp (mokS_cons.mp o).2).2)) (fun ad p l e R s m args below meth c H locs cells slots Q ls hx hb hl hown hts oL oS kk => lv_iushr hx hb hd (Int32.ofInt_toInt _).symm kk) k
theorem m_ldcw (pc' : Nat) {idx : Nat} {n : Int} {v : Int32} (hd : decode K.2.2.1 pc = .ok (.ldc_w idx, 3)) (hp : pc + 3 = pc') (hw : Cond.constant K.2.1 idx v ∈ mTB) (hv : Int32.ofInt n = v) (hr : -2147483648 ≤ n ∧ n ≤ 2147483647) (k : MW K Qr mc ms pc' L ((0, n) :: S) h) : MW K Qr mc ms pc L S h := by
  subst hp
  refine m_st _ (fun oL o => mokS_i (hr) (o)) (fun ad p l e R s m args below meth c H locs cells slots Q ls hx hb hl hown hts oL oS kk => lv_ldcw hx hb hown (hts _ hw) hd (by rw [← hv]; exact kk)) k
end NZ
/-- how far the counting is: k zeros taken, x is left -/
def NL (v n x : Int) : Prop := ∃ k : Nat, n = 31 - (k : Int) ∧ x * 2 ^ k ≤ v ∧ v < (x + 1) * 2 ^ k
theorem NL.next {v n x c : Int} {s : Nat} (h : NL v n x) (hc : (2 : Int) ^ s = c) (c0 : 0 < c) : NL v (n - s) (x / c) := by
  obtain ⟨k, e, a, b⟩ := h
  have p : (0 : Int) < 2 ^ k := Int.pow_pos (by decide)
  have d1 := Int.mul_ediv_self_le (x := x) (k := c) (by omega)
  have d2 := Int.lt_mul_ediv_self_add (x := x) (k := c) c0
  refine ⟨k + s, by omega, ?_, ?_⟩
  · rw [Int.pow_add, hc, Int.mul_comm (2 ^ k), ← Int.mul_assoc]
    refine Int.le_trans (Int.mul_le_mul_of_nonneg_right ?_ (Int.le_of_lt p)) a
    rw [Int.mul_comm]
    exact d1
  · rw [Int.pow_add, hc, Int.mul_comm (2 ^ k), ← Int.mul_assoc]
    refine Int.lt_of_lt_of_le b (Int.mul_le_mul_of_nonneg_right ?_ (Int.le_of_lt p))
    rw [Int.add_mul, Int.one_mul, Int.mul_comm]
    omega
theorem NL.end' {v n x : Int} (h : NL v n x) (hx : 1 ≤ x ∧ x < 4) (hv : v < 1073741824) : 2 ≤ n - x / 2 ∧ n - x / 2 ≤ 31 ∧ 536870912 ≤ v * 2 ^ (n - x / 2 - 2).toNat ∧ v * 2 ^ (n - x / 2 - 2).toNat < 1073741824 := by
  obtain ⟨k, e, a, b⟩ := h
  have p : (0 : Int) < 2 ^ k := Int.pow_pos (by decide)
  by_cases q : x = 1
  · subst q
    have k29 : k ≤ 29 := by
      by_cases w : k ≤ 29
      · exact w
      · exfalso
        have m : (2 : Int) ^ 30 ≤ 2 ^ k := pmono (by decide) (show 30 ≤ k by omega)
        have : (2 : Int) ^ 30 = 1073741824 := by decide
        omega
    have e1 : n - 1 / 2 = 31 - (k : Int) := by omega
    rw [e1, show (31 - (k : Int) - 2).toNat = 29 - k by omega]
    have pp : (2 : Int) ^ k * 2 ^ (29 - k) = 536870912 := by
      rw [← Int.pow_add, show k + (29 - k) = 29 by omega]
      decide
    have p2 : (0 : Int) < 2 ^ (29 - k) := Int.pow_pos (by decide)
    have l1 := Int.mul_le_mul_of_nonneg_right a (Int.le_of_lt p2)
    have l2 := Int.mul_lt_mul_of_pos_right b p2
    rw [Int.one_mul, pp] at l1
    rw [show (1 : Int) + 1 = 2 by decide, Int.mul_assoc, pp] at l2
    omega
  · have e1 : x / 2 = 1 := by omega
    have k28 : k ≤ 28 := by
      by_cases w : k ≤ 28
      · exact w
      · exfalso
        have m : (2 : Int) ^ 29 ≤ 2 ^ k := pmono (by decide) (show 29 ≤ k by omega)
        have e2 : (2 : Int) ^ 29 = 536870912 := by decide
        have := Int.mul_le_mul_of_nonneg_right (show 2 ≤ x by omega) (Int.le_of_lt p)
        omega
    rw [e1, e, show (31 - (k : Int) - 1 - 2).toNat = 28 - k by omega]
    have pp : (2 : Int) ^ k * 2 ^ (28 - k) = 268435456 := by
      rw [← Int.pow_add, show k + (28 - k) = 28 by omega]
      decide
    have p2 : (0 : Int) < 2 ^ (28 - k) := Int.pow_pos (by decide)
    have x2 := Int.mul_le_mul_of_nonneg_right (show 2 ≤ x by omega) (Int.le_of_lt p)
    have x4 := Int.mul_le_mul_of_nonneg_right (show x + 1 ≤ 4 by omega) (Int.le_of_lt p)
    have l1 := Int.mul_le_mul_of_nonneg_right (Int.le_trans x2 a) (Int.le_of_lt p2)
    have l2 := Int.mul_lt_mul_of_pos_right (Int.lt_of_lt_of_le b x4) p2
    rw [Int.mul_assoc, pp] at l1 l2
    omega
abbrev kNZ : mK := (0, RJ6, cJ6_numberOfLeadingZeros_0f7a4, 2, some .int, 0, 0)
set_option maxHeartbeats 2000000 in
theorem nlz_of {h : MH} {v : Int} (hv : 1 ≤ v ∧ v < 1073741824) : MCal kNZ yJ6_numberOfLeadingZeros_0f7a4 0 0 [(0, v)] h fun o h' => o.1 = 1 ∧ (∃ z, o.2 = (0, z) ∧ 2 ≤ z ∧ z ≤ 31 ∧ 536870912 ≤ v * 2 ^ (z - 2).toNat ∧ v * 2 ^ (z - 2).toNat < 1073741824) ∧ h' = h := by
  refine MCal.ofMWF rfl ⟨by decide +kernel, rfl⟩ (Nat.le_of_ble_eq_true rfl) ?_
  show MW kNZ _ 0 0 0 [(0, (0, v))] [] h
  generalize eQ : (fun o h' => o.1 = 1 ∧ (∃ z, o.2 = (0, z) ∧ 2 ≤ z ∧ z ≤ 31 ∧ 536870912 ≤ v * 2 ^ (z - 2).toNat ∧ v * 2 ^ (z - 2).toNat < 1073741824) ∧ h' = h : MO → MH → Prop) = Q
  have z73 : ∀ n x : Int, NL v n x → 1 ≤ x ∧ x < 4 → 0 ≤ n ∧ n ≤ 31 → MW kNZ Q 0 0 73 [(0, (0, x)), (1, (0, n))] [] h := fun n x nl xb nb => by
    refine m_iload_n 74 (j := 1) (by decide +kernel) rfl rfl ?_
    refine m_iload_n 75 (j := 0) (by decide +kernel) rfl rfl ?_
    refine m_iconst 76 (n := 1) (by decide +kernel) rfl (by decide) ?_
    refine m_iushr 77 (by decide +kernel) rfl (v := x / 2) (ushr_k (k := 1) (by omega) (by decide +kernel)) ?_
    refine m_isub 78 (by decide +kernel) rfl (by omega) ?_
    refine m_ireturn (ty := .int) (by decide +kernel) rfl rfl ?_
    subst eQ
    exact ⟨rfl, ⟨_, rfl, nl.end' xb hv.2⟩, rfl⟩
  have z61 : ∀ n x : Int, NL v n x → 1 ≤ x ∧ x < 16 → 3 ≤ n ∧ n ≤ 31 → MW kNZ Q 0 0 61 [(0, (0, x)), (1, (0, n))] [] h := fun n x nl xb nb => by
    refine m_iload_n 62 (j := 0) (by decide +kernel) rfl rfl ?_
    refine m_iconst 63 (n := 4) (by decide +kernel) rfl (by decide) ?_
    refine m_ic_lt 66 73 (off := 10) (by decide +kernel) rfl rfl (fun cc => ?_) (fun cc => ?_)
    · exact z73 n x nl ⟨xb.1, cc⟩ (by omega)
    · refine m_iinc 69 (i := 1) (n := -2) (by decide +kernel) rfl (by decide) rfl (by omega) ?_
      refine m_iload_n 70 (j := 0) (by decide +kernel) rfl rfl ?_
      refine m_iconst 71 (n := 2) (by decide +kernel) rfl (by decide) ?_
      refine m_iushr 72 (by decide +kernel) rfl (v := x / 4) (ushr_k (k := 2) (by omega) (by decide +kernel)) ?_
      refine m_istore_n 73 (j := 0) (i := 0) rfl (by decide +kernel) rfl (by decide) ?_
      refine m_sub [(0, (0, x / 4)), (1, (0, n + -2))] (List.forall_mem_cons.mpr ⟨rfl, List.forall_mem_cons.mpr ⟨rfl, fun _ h => absurd h List.not_mem_nil⟩⟩) ?_
      exact z73 (n + -2) (x / 4) (nl.next (s := 2) (by decide) (by decide)) (by omega) (by omega)
  have z48 : ∀ n x : Int, NL v n x → 1 ≤ x ∧ x < 256 → 7 ≤ n ∧ n ≤ 31 → MW kNZ Q 0 0 48 [(0, (0, x)), (1, (0, n))] [] h := fun n x nl xb nb => by
    refine m_iload_n 49 (j := 0) (by decide +kernel) rfl rfl ?_
    refine m_bipush 51 (n := 16) (by decide +kernel) rfl (by decide) ?_
    refine m_ic_lt 54 61 (off := 10) (by decide +kernel) rfl rfl (fun cc => ?_) (fun cc => ?_)
    · exact z61 n x nl ⟨xb.1, cc⟩ (by omega)
    · refine m_iinc 57 (i := 1) (n := -4) (by decide +kernel) rfl (by decide) rfl (by omega) ?_
      refine m_iload_n 58 (j := 0) (by decide +kernel) rfl rfl ?_
      refine m_iconst 59 (n := 4) (by decide +kernel) rfl (by decide) ?_
      refine m_iushr 60 (by decide +kernel) rfl (v := x / 16) (ushr_k (k := 4) (by omega) (by decide +kernel)) ?_
      refine m_istore_n 61 (j := 0) (i := 0) rfl (by decide +kernel) rfl (by decide) ?_
      refine m_sub [(0, (0, x / 16)), (1, (0, n + -4))] (List.forall_mem_cons.mpr ⟨rfl, List.forall_mem_cons.mpr ⟨rfl, fun _ h => absurd h List.not_mem_nil⟩⟩) ?_
      exact z61 (n + -4) (x / 16) (nl.next (s := 4) (by decide) (by decide)) (by omega) (by omega)
  have z33 : ∀ n x : Int, NL v n x → 1 ≤ x ∧ x < 65536 → 15 ≤ n ∧ n ≤ 31 → MW kNZ Q 0 0 33 [(0, (0, x)), (1, (0, n))] [] h := fun n x nl xb nb => by
    refine m_iload_n 34 (j := 0) (by decide +kernel) rfl rfl ?_
    refine m_sipush 37 (n := 256) (by decide +kernel) rfl (by decide) ?_
    refine m_ic_lt 40 48 (off := 11) (by decide +kernel) rfl rfl (fun cc => ?_) (fun cc => ?_)
    · exact z48 n x nl ⟨xb.1, cc⟩ (by omega)
    · refine m_iinc 43 (i := 1) (n := -8) (by decide +kernel) rfl (by decide) rfl (by omega) ?_
      refine m_iload_n 44 (j := 0) (by decide +kernel) rfl rfl ?_
      refine m_bipush 46 (n := 8) (by decide +kernel) rfl (by decide) ?_
      refine m_iushr 47 (by decide +kernel) rfl (v := x / 256) (ushr_k (k := 8) (by omega) (by decide +kernel)) ?_
      refine m_istore_n 48 (j := 0) (i := 0) rfl (by decide +kernel) rfl (by decide) ?_
      refine m_sub [(0, (0, x / 256)), (1, (0, n + -8))] (List.forall_mem_cons.mpr ⟨rfl, List.forall_mem_cons.mpr ⟨rfl, fun _ h => absurd h List.not_mem_nil⟩⟩) ?_
      exact z48 (n + -8) (x / 256) (nl.next (s := 8) (by decide) (by decide)) (by omega) (by omega)
  have z18 : ∀ n x : Int, NL v n x → 1 ≤ x ∧ x < 1073741824 → 31 ≤ n ∧ n ≤ 31 → MW kNZ Q 0 0 18 [(0, (0, x)), (1, (0, n))] [] h := fun n x nl xb nb => by
    refine m_iload_n 19 (j := 0) (by decide +kernel) rfl rfl ?_
    refine m_ldcw 22 (n := 65536) (by decide +kernel) rfl lcJ6_264 rfl (by decide) ?_
    refine m_ic_lt 25 33 (off := 11) (by decide +kernel) rfl rfl (fun cc => ?_) (fun cc => ?_)
    · exact z33 n x nl ⟨xb.1, cc⟩ (by omega)
    · refine m_iinc 28 (i := 1) (n := -16) (by decide +kernel) rfl (by decide) rfl (by omega) ?_
      refine m_iload_n 29 (j := 0) (by decide +kernel) rfl rfl ?_
      refine m_bipush 31 (n := 16) (by decide +kernel) rfl (by decide) ?_
      refine m_iushr 32 (by decide +kernel) rfl (v := x / 65536) (ushr_k (k := 16) (by omega) (by decide +kernel)) ?_
      refine m_istore_n 33 (j := 0) (i := 0) rfl (by decide +kernel) rfl (by decide) ?_
      refine m_sub [(0, (0, x / 65536)), (1, (0, n + -16))] (List.forall_mem_cons.mpr ⟨rfl, List.forall_mem_cons.mpr ⟨rfl, fun _ h => absurd h List.not_mem_nil⟩⟩) ?_
      exact z33 (n + -16) (x / 65536) (nl.next (s := 16) (by decide) (by decide)) (by omega) (by omega)
  refine m_iload_n 1 (j := 0) (by decide +kernel) rfl rfl ?_
  refine m_if_gt 4 15 (off := 14) (by decide +kernel) rfl rfl (fun _ => ?_) (fun cc => by omega)
  refine m_bipush 17 (n := 31) (by decide +kernel) rfl (by decide) ?_
  refine m_istore_n 18 (j := 1) (i := 1) rfl (by decide +kernel) rfl (by decide) ?_
  refine m_sub [(0, (0, v)), (1, (0, 31))] (List.forall_mem_cons.mpr ⟨rfl, List.forall_mem_cons.mpr ⟨rfl, fun _ h => absurd h List.not_mem_nil⟩⟩) ?_
  exact z18 31 v ⟨0, rfl, by rw [show (2 : Int) ^ 0 = 1 by decide, Int.mul_one]; exact Int.le_refl _, by rw [show (2 : Int) ^ 0 = 1 by decide, Int.mul_one]; omega⟩ (by omega) (by omega)
section HR
variable {K : mK} {P : MP} {o i pc aa : Nat} {zz : Int} {bb cc mc ms : Nat} {L : List (Nat × MV)} {S : List MV} {h : MH} {Q : MO → MH → Prop}
theorem hd_alen (ok : okP K o P = true) {c n k : Nat} (hi : P.1[i]? = some (pc, 60, zz, aa, bb, cc)) (hc : c < h.1 ∧ (h.2 c).1 = k ∧ (k < 16 → (h.2 c).2.1 = n)) (k16 : k < 16) (nb : n ≤ 2147483647) (kk : MW K Q mc ms (pcA P (i + 1)) L ((0, (n : Int)) :: S) h) : MW K Q mc ms (pcA P i) L ((2, (c : Int)) :: S) h := so1 ok hi ⟨rfl, Int.natCast_nonneg c, hc.1, by
  show (h.2 c).1 < 16
  rw [hc.2.1]; exact k16, by
  show (h.2 c).2.1 ≤ 2147483647
  rw [hc.2.2 k16]; exact nb, by
  show MW K Q mc ms (pcA P (i + 1)) L ((0, ((h.2 c).2.1 : Int)) :: S) h
  rw [hc.2.2 k16]; exact kk⟩
theorem hd_imin (ok : okP K o P = true) {x y : Int} (hi : P.1[i]? = some (pc, 69, zz, aa, bb, cc)) (hw : (S.map mcat).sum ≤ 8) (kk : ∀ v : Int, v ≤ x → v ≤ y → (v = x ∨ v = y) → MW K Q mc ms (pcA P (i + 1)) L ((0, v) :: S) h) : MW K Q mc ms (pcA P i) L ((0, y) :: (0, x) :: S) h := so1 ok hi ⟨rfl, rfl, hw, by
  refine kk (iMin x y) ?_ ?_ ?_ <;> (unfold iMin; split <;> omega)⟩
theorem hd_aldR (ok : okP K o P = true) {c n kd : Nat} {x : Int} (hi : P.1[i]? = some (pc, 55, zz, aa, bb, cc)) (hc : c < h.1 ∧ (h.2 c).1 = kd ∧ (kd < 16 → (h.2 c).2.1 = n)) (hk : kd = 6 ∨ kd = 7 ∨ kd = 8) (h0 : 0 ≤ x) (h1 : x < (n : Int)) (k : ∀ v, v = ga h c x → MW K Q mc ms (pcA P (i + 1)) L ((2, v) :: S) h) : MW K Q mc ms (pcA P i) L ((0, x) :: (2, (c : Int)) :: S) h := so1 ok hi ⟨rfl, rfl, ⟨Int.natCast_nonneg c, hc.1, h0, by rw [show (h.2 (Int.toNat (c : Int))).2.1 = n from hc.2.2 (by omega)]; exact h1⟩, by show (h.2 c).1 = 6 ∨ (h.2 c).1 = 7 ∨ (h.2 c).1 = 8; rw [hc.2.1]; exact hk, k _ rfl⟩
end HR
section HX
variable {mc ms : Nat} {L : List (Nat × MV)} {S : List MV} {h : MH} {Q : MO → MH → Prop} {m i a b : Nat}
theorem hd_fillR (hm : m < 821) (hf : xfind m i XT = some (82, a, b)) {c n : Nat} {x y v : Int} (hc : c < h.1 ∧ (h.2 c).1 = 0 ∧ (0 < 16 → (h.2 c).2.1 = n)) (c4 : 4 ≤ c) (nb : n ≤ 2147483646) (x0 : 0 ≤ x) (xy : x ≤ y) (yn : y ≤ (n : Int)) (hw : (S.map mcat).sum ≤ 8) (kk : ∀ h2, h2 = hfill h c x.toNat y.toNat v → MW (kT m) Q mc ms (pcA (pgT m) (i + 1)) L S h2) : MW (kT m) Q mc ms (pcA (pgT m) i) L ((0, v) :: (0, y) :: (0, x) :: (2, (c : Int)) :: S) h := by
  have o := (andB (okX_at hf)).2
  have o : (okT (kT m) (pcA (pgT m) i) (.invokestatic a) 3 && (Nat.beq (pcA (pgT m) i + 3) (pcA (pgT m) (i + 1)) && (fitB (kT m) kFR && in3 82 (ownT m) a XW))) = true := o
  obtain ⟨o1, o2⟩ := andB o
  obtain ⟨o2, o3⟩ := andB o2
  obtain ⟨o3, o4⟩ := andB o3
  have hl : (h.2 c).2.1 = n := hc.2.2 (by decide)
  refine m_invokestaticX (K' := kFR) (y := yJ7_fill_fda19) (As := [(2, (c : Int)), (0, x), (0, y), (0, v)]) (S := S) (okT_of o1) (fun _ => by decide) ⟨lo_J7_fill_fda19, li_J7⟩ ⟨XW_at hm o4, lv_J7_fill_fda19_s⟩ ⟨by decide, by decide, (by show _ = some 4; decide +kernel)⟩ (fitB_of o3).1 hw rfl (Nat.zero_le _) (Nat.zero_le _) (fillR_of (Int.natCast_nonneg c) c4 hc.1 hc.2.1 (by show (h.2 c).2.1 ≤ _; rw [hl]; exact nb) x0 xy (by show y ≤ ((h.2 c).2.1 : Int); rw [hl]; exact yn)) fun o h' q => ⟨fun _ => ?_, fun z => by rw [q.1] at z; cases z⟩
  rw [q.2, beqN o2]
  exact kk _ rfl
theorem hd_copyI (hm : m < 821) (hf : xfind m i XT = some (83, a, b)) {c n d e : Nat} {x y z : Int} (hc : c < h.1 ∧ (h.2 c).1 = 0 ∧ (0 < 16 → (h.2 c).2.1 = n)) (c4 : 4 ≤ c) (hd : d < h.1 ∧ (h.2 d).1 = 0 ∧ (0 < 16 → (h.2 d).2.1 = e)) (d4 : 4 ≤ d) (x0 : 0 ≤ x) (y0 : 0 ≤ y) (z0 : 0 ≤ z) (xn : x + z ≤ (n : Int)) (ye : y + z ≤ (e : Int)) (hw : (S.map mcat).sum ≤ 8) (kk : ∀ h2, h2 = hcopy h c d x.toNat y.toNat z.toNat → MW (kT m) Q mc ms (pcA (pgT m) (i + 1)) L S h2) : MW (kT m) Q mc ms (pcA (pgT m) i) L ((0, z) :: (0, y) :: (2, (d : Int)) :: (0, x) :: (2, (c : Int)) :: S) h := by
  have o := (andB (okX_at hf)).2
  have o : (okT (kT m) (pcA (pgT m) i) (.invokestatic a) 3 && (Nat.beq (pcA (pgT m) i + 3) (pcA (pgT m) (i + 1)) && (Nat.ble 1 (kT m).2.2.2.2.2.1 && (Nat.ble 26 (kT m).2.2.2.2.2.2 && in3 83 (ownT m) a XW)))) = true := o
  obtain ⟨o1, o2⟩ := andB o
  obtain ⟨o2, o3⟩ := andB o2
  obtain ⟨o3, o4⟩ := andB o3
  obtain ⟨o4, o5⟩ := andB o4
  have hl : (h.2 c).2.1 = n := hc.2.2 (by decide)
  have hl2 : (h.2 d).2.1 = e := hd.2.2 (by decide)
  refine m_copyI (okT_of o1) (XW_at hm o5) ⟨bleN o3, bleN o4⟩ hw (Int.natCast_nonneg c) c4 hc.1 hc.2.1 (Int.natCast_nonneg d) d4 hd.1 hd.2.1 x0 y0 z0 (by show x + z ≤ ((h.2 c).2.1 : Int); rw [hl]; exact xn) (by show y + z ≤ ((h.2 d).2.1 : Int); rw [hl2]; exact ye) ?_
  rw [beqN o2]
  exact kk _ rfl
end HX
theorem hd_nlz {mc ms : Nat} {L : List (Nat × MV)} {S : List MV} {h : MH} {Q : MO → MH → Prop} {v : Int} (hv : 1 ≤ v ∧ v < 1073741824) (hw : (S.map mcat).sum ≤ 8) (kk : ∀ z : Int, 2 ≤ z → z ≤ 31 → 536870912 ≤ v * 2 ^ (z - 2).toNat → v * 2 ^ (z - 2).toNat < 1073741824 → MW KX1_divide Q mc ms (pcA pgX1_divide 45) L ((0, z) :: S) h) : MW KX1_divide Q mc ms (pcA pgX1_divide 44) L ((0, v) :: S) h := by
  refine m_invokestaticX (K' := kNZ) (y := yJ6_numberOfLeadingZeros_0f7a4) (As := [(0, v)]) (S := S) (show decode KX1_divide.2.2.1 83 = .ok (.invokestatic 58, 3) by decide +kernel) (fun _ => by decide) ⟨lo_J6_numberOfLeadingZeros_0f7a4, li_J6⟩ ⟨lmX1_58, lv_J6_numberOfLeadingZeros_0f7a4_s⟩ ⟨by decide, by decide, (by show _ = some 1; decide +kernel)⟩ (fitB_of (show fitB KX1_divide kNZ = true by decide +kernel)).1 hw rfl (Nat.zero_le _) (Nat.zero_le _) (nlz_of hv) fun o h' q => ⟨fun z => (by rw [q.1] at z; cases z), fun _ => ?_⟩
  obtain ⟨q1, ⟨z, q2, q3, q4, q5, q6⟩, q7⟩ := q
  rw [q7, q2]
  exact kk z q3 q4 q5 q6
