/-! X0: the cells of a frame by the table -/
section HX3
variable {mc ms : Nat} {L : List (Nat × MV)} {S : List MV} {h : MH} {Q : MO → MH → Prop} {m i a b : Nat}
theorem hd_callX (hm : m < 821) (hf : xfind m i XT = some (100, a, b)) {q : MR} (hq : mtab[b]? = some q) (hv : q.2.2.2.2 = 1) (hfit : fitB (kT m) q.1 = true) {As rest : List MV} (hS : S = As.reverse ++ rest) (hn : q.2.2.2.1 = As.length) (hw : (rest.map mcat).sum ≤ 8) {Q' : MO → MH → Prop} (hM : MCal q.1 q.2.1 0 0 As h Q')
    (kk : ∀ (r : MO) (h' : MH), Q' r h' → (r.1 = 0 → MW (kT m) Q mc ms (pcA (pgT m) (i + 1)) L rest h') ∧ (r.1 = 1 → MW (kT m) Q mc ms (pcA (pgT m) (i + 1)) L (r.2 :: rest) h')) : MW (kT m) Q mc ms (pcA (pgT m) i) L S h := by
  have o := (andB (okX_at hf)).2
  have o : (okT (kT m) (pcA (pgT m) i) (.invokestatic a) 3 && (Nat.beq (pcA (pgT m) i + 3) (pcA (pgT m) (i + 1)) && in3 (ownT m) a b XN)) = true := o
  obtain ⟨o1, o2⟩ := andB o
  obtain ⟨o2, o3⟩ := andB o2
  obtain ⟨r, host, hr, hN⟩ := XN_ok _ (in3_of o3)
  have hr : mtab[b]? = some r := hr
  rw [hq] at hr
  have er : q = r := Option.some.inj hr
  subst er
  have hN : (mcn (ownT m), a, q.2.1, host) ∈ mNL := hN
  rw [← kT_cls hm] at hN
  have mf := mtab_ok q (List.mem_of_getElem? hq)
  obtain ⟨g1, g2, g3, g4, g5, g6⟩ := mf
  rw [← beqN o2] at kk
  exact m_invokestaticN (okT_of o1) (fitB_of hfit).2 g1 ⟨hN, g5 hv⟩ ⟨trivial, g4.1, g4.2.1, by rw [← hn]; exact g4.2.2⟩ (fitB_of hfit).1 hw hS (Nat.zero_le _) (Nat.zero_le _) hM kk
theorem hd_fillJ (hm : m < 821) (hf : xfind m i XT = some (81, a, b)) {c n : Nat} {v : Int} (hc : c < h.1 ∧ (h.2 c).1 = 1 ∧ (1 < 16 → (h.2 c).2.1 = n)) (c4 : 4 ≤ c) (nb : n ≤ 2147483646) (hw : (S.map mcat).sum ≤ 8) (kk : ∀ h2, h2 = hfill h c 0 n v → MW (kT m) Q mc ms (pcA (pgT m) (i + 1)) L S h2) : MW (kT m) Q mc ms (pcA (pgT m) i) L ((1, v) :: (2, (c : Int)) :: S) h := by
  have o := (andB (okX_at hf)).2
  have o : (okT (kT m) (pcA (pgT m) i) (.invokestatic a) 3 && (Nat.beq (pcA (pgT m) i + 3) (pcA (pgT m) (i + 1)) && (fitB (kT m) kFL && in3 81 (ownT m) a XW))) = true := o
  obtain ⟨o1, o2⟩ := andB o
  obtain ⟨o2, o3⟩ := andB o2
  obtain ⟨o3, o4⟩ := andB o3
  have hl : (h.2 c).2.1 = n := hc.2.2 (by decide)
  refine m_invokestaticX (K' := kFL) (y := yJ7_fill_d0a16) (As := [(2, (c : Int)), (1, v)]) (S := S) (okT_of o1) (fun _ => by decide) ⟨lo_J7_fill_d0a16, li_J7⟩ ⟨XW_at hm o4, lv_J7_fill_d0a16_s⟩ ⟨by decide, by decide, (by show _ = some 2; decide +kernel)⟩ (fitB_of o3).1 hw rfl (Nat.zero_le _) (Nat.zero_le _) (fillL_of (Int.natCast_nonneg c) c4 hc.1 hc.2.1 (by show (h.2 c).2.1 ≤ _; rw [hl]; exact nb)) fun o h' q => ⟨fun _ => ?_, fun z => by rw [q.1] at z; cases z⟩
  rw [q.2, beqN o2]
  refine kk _ ?_
  show hfill h c 0 (h.2 c).2.1 v = _
  rw [hl]
end HX3
def zCell (c k n : Nat) : Bool := Nat.ble 1 c && (Nat.blt c 2628 && (Nat.beq (zKind c) k && (Nat.beq (zLen c) n || Nat.ble 16 k)))
theorem st_cell {h : MH} (st : StrZ zT h) {c k n : Nat} (e : zCell c k n = true) : c < h.1 ∧ (h.2 c).1 = k ∧ (k < 16 → (h.2 c).2.1 = n) := by
  unfold zCell at e
  obtain ⟨e1, e⟩ := andB e
  obtain ⟨e2, e⟩ := andB e
  obtain ⟨e3, e4⟩ := andB e
  have c1 := bleN e1
  have c2 := bltN e2
  have ek : zKind c = k := beqN e3
  have n0 : 2628 ≤ h.1 := st.1.1
  obtain ⟨a1, a2⟩ := st.1.2 c c1 (show c < 2628 from c2)
  have a1 : (h.2 c).1 = zKind c := a1
  refine ⟨by omega, a1.trans ek, fun l => ?_⟩
  have q : (h.2 c).2.1 = zLen c := a2 (by rw [a1, ek]; exact l)
  rcases (Bool.or_eq_true _ _).mp e4 with w | w
  · rw [q]
    exact beqN w
  · have := bleN w
    omega
theorem st_ref {h : MH} (st : StrZ zT h) {c j n : Nat} (e : (Nat.beq (zRef c j) n && Nat.ble 1 n) = true) : (h.2 c).2.2 j = (n : Int) := by
  obtain ⟨e1, e2⟩ := andB e
  have a := beqN e1
  have b := bleN e2
  rw [st.2.1 c j (by show zRef c j ≠ 0; omega)]
  show ((zRef c j : Nat) : Int) = _
  rw [a]
theorem st_row {h : MH} (st : StrZ zT h) {c b n k : Nat} (e : (Nat.beq (zRow c).1 b && (Nat.beq (zRow c).2 n && Nat.beq (zst zT c) k)) = true) {j : Int} (j0 : 0 ≤ j ∧ j < (n : Int)) : ga h c j = (b : Int) + (k : Int) * j := by
  obtain ⟨e1, e⟩ := andB e
  obtain ⟨e2, e3⟩ := andB e
  have a1 := beqN e1
  have a2 := beqN e2
  have a3 := beqN e3
  have q := st.2.2 c j.toNat (by show j.toNat < (zRow c).2; omega)
  show (h.2 c).2.2 j.toNat = _
  rw [q, show ((zT.2.2.2.2 c).1 : Int) = (b : Int) by rw [← a1]; rfl, a3, show ((j.toNat : Nat) : Int) = j by omega]
def sR (b : Int) : Nat := 163 + b.toNat
def fR (r : Int) : Nat := 183 + r.toNat
theorem st_size {h : MH} (st : StrZ zT h) {b : Int} (b0 : 0 ≤ b ∧ b < 3) : ga h 162 b = ((sR b : Nat) : Int) := by
  rw [st_row st (b := 163) (n := 3) (k := 1) (by decide +kernel) b0]
  unfold sR
  omega
theorem st_force {h : MH} (st : StrZ zT h) {r : Int} (r0 : 0 ≤ r ∧ r < 8) : ga h 182 r = ((fR r : Nat) : Int) := by
  rw [st_row st (b := 183) (n := 8) (k := 1) (by decide +kernel) r0]
  unfold fR
  omega
theorem sR_z : ∀ k : Nat, k < 3 → zCell (163 + k) 0 2 = true := by decide +kernel
theorem fR_z : ∀ k : Nat, k < 8 → zCell (183 + k) 1 8 = true := by decide +kernel
theorem sR_cell {h : MH} (st : StrZ zT h) {b : Int} (b0 : 0 ≤ b ∧ b < 3) : sR b < h.1 ∧ (h.2 (sR b)).1 = 0 ∧ (0 < 16 → (h.2 (sR b)).2.1 = 2) := st_cell st (sR_z b.toNat (by omega))
theorem fR_cell {h : MH} (st : StrZ zT h) {r : Int} (r0 : 0 ≤ r ∧ r < 8) : fR r < h.1 ∧ (h.2 (fR r)).1 = 1 ∧ (1 < 16 → (h.2 (fR r)).2.1 = 8) := st_cell st (fR_z r.toNat (by omega))
theorem fR_b {r : Int} (r0 : 0 ≤ r ∧ r < 8) : 183 ≤ fR r ∧ fR r ≤ 190 := by unfold fR; omega
theorem sR_b {b : Int} (b0 : 0 ≤ b ∧ b < 3) : 163 ≤ sR b ∧ sR b ≤ 165 := by unfold sR; omega
theorem fR_inj {r x : Int} (r0 : 0 ≤ r) (x0 : 0 ≤ x) (n : r ≠ x) : fR r ≠ fR x := by unfold fR; omega
theorem zRef_arr {c j : Nat} (k : zKind c < 16) : zRef c j = 0 := by
  unfold zRef
  rw [show Nat.ble 16 (zKind c) = false from Bool.eq_false_iff.mpr fun w => by have := bleN w; omega, Bool.and_false, Bool.and_false]
  rfl
theorem zRow_low {c : Nat} (k : zKind c < 6) : (zRow c).2 = 0 := by
  unfold zRow
  rw [show Nat.ble 6 (zKind c) = false from Bool.eq_false_iff.mpr fun w => by have := bleN w; omega, Bool.false_and, Bool.and_false, Bool.and_false]
  rfl
/-- one write of a plain array's element -/
theorem st_arr {h : MH} (st : StrZ zT h) {c : Nat} {i v : Int} (k : zKind c < 6) : StrZ zT (sa h c i v) := strz_only st ((Only.refl [c] h).set List.mem_cons_self) (fun d hd j n => by
  rw [List.mem_singleton] at hd
  subst hd
  exact absurd (zRef_arr (by omega)) n) (fun d hd => by
  rw [List.mem_singleton] at hd
  subst hd
  exact zRow_low k)
theorem st_fld {h : MH} (st : StrZ zT h) {i v : Int} (z : zRef 161 i.toNat = 0) : StrZ zT (sa h 161 i v) := strz_only st ((Only.refl [161] h).set List.mem_cons_self) (fun d hd j n => by
  rw [List.mem_singleton] at hd
  subst hd
  by_cases w : j = i.toNat
  · rw [w] at n
    exact absurd z n
  · show (if (161 : Nat) = 161 then ((h.2 161).1, (h.2 161).2.1, fun k => if k = i.toNat then v else (h.2 161).2.2 k) else h.2 161).2.2 j = (h.2 161).2.2 j
    rw [if_pos rfl]
    show (if j = i.toNat then v else (h.2 161).2.2 j) = _
    rw [if_neg w]) (fun d hd => by
  rw [List.mem_singleton] at hd
  subst hd
  decide +kernel)
theorem fR_k {r : Int} (r0 : 0 ≤ r ∧ r < 8) : zKind (fR r) < 6 := by
  have e := fR_z r.toNat (by omega)
  unfold zCell at e
  have e3 := beqN (andB (andB (andB e).2).2).1
  show zKind (183 + r.toNat) < 6
  omega
theorem mul_ab {x y a b : Int} (hx : -a ≤ x ∧ x ≤ a) (hy : -b ≤ y ∧ y ≤ b) : -(a * b) ≤ x * y ∧ x * y ≤ a * b := by
  have h : (x * y).natAbs ≤ a.natAbs * b.natAbs := by
    rw [Int.natAbs_mul]
    exact Nat.mul_le_mul (by omega) (by omega)
  have e : ((a.natAbs * b.natAbs : Nat) : Int) = a * b := by
    rw [Int.natCast_mul, Int.natAbs_of_nonneg (by omega), Int.natAbs_of_nonneg (by omega)]
  omega
theorem tdiv0 {x y : Int} (hx : 0 ≤ x) (hy : 1 ≤ y) : 0 ≤ x.tdiv y ∧ x.tdiv y ≤ x ∧ x.tdiv y * y ≤ x := by
  rw [Int.tdiv_eq_ediv_of_nonneg hx]
  exact ⟨Int.ediv_nonneg hx (by omega), Int.ediv_le_self _ hx, Int.ediv_mul_le _ (by omega)⟩
/-- lengths and stiffnesses are small -/
def SZ0 (h : MH) : Prop := (1 ≤ ga h 161 0 ∧ ga h 161 0 ≤ 3) ∧ ∀ b : Int, 0 ≤ b → b < 3 → (1 ≤ ga h (sR b) 0 ∧ ga h (sR b) 0 ≤ 12) ∧ (1 ≤ ga h (sR b) 1 ∧ ga h (sR b) 1 ≤ 12)
def spr (s : Int → Int) : Nat → Int
  | 0 => 1
  | n + 1 => spr s n * s (n : Int)
theorem spr_b {s : Int → Int} (n : Nat) (hn : n ≤ 3) (hs : ∀ b : Int, 0 ≤ b → b < 3 → 1 ≤ s b ∧ s b ≤ 12) : 1 ≤ spr s n ∧ spr s n ≤ 1728 ∧ ∀ b : Int, 0 ≤ b → b < (n : Int) → spr s n ≤ 144 * s b := by
  have s0 := hs 0 (by decide) (by decide)
  have s1 := hs 1 (by decide) (by decide)
  have s2 := hs 2 (by decide) (by decide)
  have p2 : ∀ x y : Int, 1 ≤ x ∧ x ≤ 12 → 1 ≤ y ∧ y ≤ 12 → 1 ≤ x * y ∧ x * y ≤ 144 := fun x y hx hy => ⟨by have := Int.mul_le_mul hx.1 hy.1 (by omega) (by omega); omega, by have := Int.mul_le_mul hx.2 hy.2 (by omega) (by omega); omega⟩
  rcases (show n = 0 ∨ n = 1 ∨ n = 2 ∨ n = 3 by omega) with rfl | rfl | rfl | rfl
  · exact ⟨Int.le_refl 1, show (1 : Int) ≤ 1728 by decide, fun b b0 b1 => by omega⟩
  · have e : spr s 1 = s 0 := by show 1 * s ((0 : Nat) : Int) = _; rw [Int.one_mul]; rfl
    rw [e]
    refine ⟨by omega, by omega, fun b b0 b1 => ?_⟩
    have : b = 0 := by omega
    subst this
    omega
  · have e : spr s 2 = s 0 * s 1 := by show 1 * s ((0 : Nat) : Int) * s ((1 : Nat) : Int) = _; rw [Int.one_mul]; rfl
    rw [e]
    have p := p2 _ _ s0 s1
    refine ⟨by omega, by omega, fun b b0 b1 => ?_⟩
    have hb := hs b b0 (by omega)
    omega
  · have e : spr s 3 = s 0 * s 1 * s 2 := by show 1 * s ((0 : Nat) : Int) * s ((1 : Nat) : Int) * s ((2 : Nat) : Int) = _; rw [Int.one_mul]; rfl
    rw [e]
    have p := p2 _ _ s0 s1
    have q := p2 _ _ s1 s2
    have w := p2 _ _ s0 s2
    have m1 := Int.mul_le_mul p.1 s2.1 (by omega) (by omega)
    have m2 := Int.mul_le_mul p.2 s2.2 (by omega) (by omega)
    refine ⟨by omega, by omega, fun b b0 b1 => ?_⟩
    rcases (show b = 0 ∨ b = 1 ∨ b = 2 by omega) with rfl | rfl | rfl
    · have := Int.mul_le_mul_of_nonneg_right q.2 (show 0 ≤ s 0 by omega)
      rw [Int.mul_assoc, Int.mul_comm]
      exact this
    · have := Int.mul_le_mul_of_nonneg_right w.2 (show 0 ≤ s 1 by omega)
      rw [Int.mul_assoc, Int.mul_comm (s 1), ← Int.mul_assoc]
      exact this
    · exact Int.mul_le_mul_of_nonneg_right p.2 (by omega)
/-- cubes -/
theorem cube_b {L s : Int} (L0 : 0 ≤ L) (s1 : 1 ≤ s ∧ s ≤ 12) (h : L ≤ 144 * s) (u : L ≤ 1728) : (0 ≤ L * L ∧ L * L ≤ 2985984) ∧ (0 ≤ L * L * L ∧ L * L * L ≤ 5159780352) ∧ (1 ≤ s * s ∧ s * s ≤ 144) ∧ (1 ≤ s * s * s ∧ s * s * s ≤ 1728) ∧ 0 ≤ (L * L * L).tdiv (s * s * s) ∧ (L * L * L).tdiv (s * s * s) ≤ 2985984 := by
  have a1 : 0 ≤ L * L := Int.mul_nonneg L0 L0
  have a2 : L * L ≤ 1728 * 1728 := Int.mul_le_mul u u L0 (by decide)
  have b1 : 0 ≤ L * L * L := Int.mul_nonneg a1 L0
  have b2 : L * L * L ≤ 1728 * 1728 * 1728 := Int.mul_le_mul a2 u L0 (by decide)
  have c1 := Int.mul_le_mul s1.1 s1.1 (by omega) (by omega)
  have c2 := Int.mul_le_mul s1.2 s1.2 (by omega) (by omega)
  have d1 := Int.mul_le_mul c1 s1.1 (by omega) (by omega)
  have d2 := Int.mul_le_mul c2 s1.2 (by omega) (by omega)
  have q1 : L * L ≤ 144 * s * (144 * s) := Int.mul_le_mul h h L0 (by omega)
  have q2 : L * L * L ≤ 144 * s * (144 * s) * (144 * s) := Int.mul_le_mul q1 h L0 (Int.mul_nonneg (by omega) (by omega))
  have e : 144 * s * (144 * s) * (144 * s) = 2985984 * (s * s * s) := by grind
  refine ⟨⟨a1, by omega⟩, ⟨b1, by omega⟩, ⟨by omega, by omega⟩, ⟨by omega, by omega⟩, ?_⟩
  rw [Int.tdiv_eq_ediv_of_nonneg b1]
  refine ⟨Int.ediv_nonneg b1 (by omega), ?_⟩
  refine Int.ediv_le_of_le_mul (by omega) ?_
  rw [← e]
  exact q2
theorem st_fill {h : MH} (st : StrZ zT h) {c a b : Nat} {v : Int} (k : zKind c < 6) : StrZ zT (hfill h c a b v) := strz_only st only_fill (fun d hd j n => by
  rw [List.mem_singleton] at hd
  subst hd
  exact absurd (zRef_arr (by omega)) n) (fun d hd => by
  rw [List.mem_singleton] at hd
  subst hd
  exact zRow_low k)
def gCs : List Nat := [161, 183, 184, 185, 186, 187, 188, 189, 190]
theorem mem_gCs {c : Nat} : c ∈ gCs ↔ c = 161 ∨ (183 ≤ c ∧ c ≤ 190) := by
  unfold gCs
  simp only [List.mem_cons, List.not_mem_nil, or_false]
  omega
theorem SZ0.only {h h' : MH} (sz : SZ0 h) (o : Only gCs h h') (e : ga h' 161 0 = ga h 161 0) : SZ0 h' := by
  refine ⟨by rw [e]; exact sz.1, fun b b0 b1 => ?_⟩
  have nb := sR_b (b := b) ⟨b0, b1⟩
  have n : sR b ∉ gCs := fun w => by
    have := mem_gCs.mp w
    omega
  rw [o.ga n, o.ga n]
  exact sz.2 b b0 b1
theorem hd_swD {K : mK} {Q : MO → MH → Prop} {mc ms i pc a o : Nat} {L : List (Nat × MV)} {S : List MV} {h : MH} {P : MP} {zz : Int} {bb cc : Nat} (ok : okP K o P = true) {x lo : Int} {dflt : Nat} {ts : List Nat} (hi : P.1[i]? = some (pc, 65, zz, a, bb, cc)) (hp : P.2[a]? = some (lo, dflt :: ts)) (ht : ts[(x - lo).toNat]? = none) (k : MW K Q mc ms (pcA P dflt) L S h) : MW K Q mc ms (pcA P i) L ((0, x) :: S) h := so1 ok hi (by
  show sSw P.2[a]? ((0, x) :: S) _
  rw [hp]
  refine ⟨rfl, ?_⟩
  show sSw2 ts[(x - lo).toNat]? lo dflt x _
  rw [ht]
  exact k)
