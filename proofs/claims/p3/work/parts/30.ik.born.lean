/-! logJoin on both sides -/
def nl8 (h : MH) (c : Int) : Int := if 0 ≤ c ∧ c < 8 then ln8 h c else 0
theorem hd_aald {K : mK} {P : MP} {o i pc : Nat} {zz : Int} {aa bb cc mc ms : Nat} {L : List (Nat × MV)} {S : List MV} {h : MH} {Q : MO → MH → Prop} (ok : okP K o P = true) {c n r : Nat} {x : Int} (hi : P.1[i]? = some (pc, 55, zz, aa, bb, cc)) (hc : c < h.1 ∧ (h.2 c).1 = 6 ∧ (h.2 c).2.1 = n) (h0 : 0 ≤ x) (h1 : x < (n : Int)) (hr : (h.2 c).2.2 x.toNat = (r : Int)) (k : MW K Q mc ms (pcA P (i + 1)) L ((2, (r : Int)) :: S) h) : MW K Q mc ms (pcA P i) L ((0, x) :: (2, (c : Int)) :: S) h := so1 ok hi (by
  refine ⟨rfl, rfl, ⟨Int.natCast_nonneg c, hc.1, h0, by rw [show (h.2 (Int.toNat (c : Int))).2.1 = n from hc.2.2]; exact h1⟩, Or.inl hc.2.1, ?_⟩
  rw [show (h.2 (Int.toNat (c : Int))).2.2 x.toNat = (r : Int) from hr]
  exact k)
set_option maxRecDepth 100000 in
theorem rwB : ∀ k : Nat, k < 8 → (k < (zT.2.2.2.2 773).2 ∧ (zT.2.2.2.2 773).1 = 774 ∧ zst zT 773 = 1) ∧ (k < (zT.2.2.2.2 782).2 ∧ (zT.2.2.2.2 782).1 = 783 ∧ zst zT 782 = 1) ∧ (zT.2.1 (774 + k) = 0 ∧ zT.2.2.1 (774 + k) = 4) ∧ (zT.2.1 (783 + k) = 0 ∧ zT.2.2.1 (783 + k) = 4) := by decide +kernel
theorem row773 {h : MH} (J : JJ zJ h) {k : Nat} (hk : k < 8) : (h.2 773).2.2 (k : Int).toNat = ((774 + k : Nat) : Int) := by
  obtain ⟨⟨a, b, c⟩, -⟩ := rwB k hk
  rw [Int.toNat_natCast, J.1.2.2 773 k a, b, c]
  omega
theorem row782 {h : MH} (J : JJ zJ h) {k : Nat} (hk : k < 8) : (h.2 782).2.2 (k : Int).toNat = ((783 + k : Nat) : Int) := by
  obtain ⟨-, ⟨a, b, c⟩, -⟩ := rwB k hk
  rw [Int.toNat_natCast, J.1.2.2 782 k a, b, c]
  omega
theorem rc774 {h : MH} (J : JJ zJ h) {k : Nat} (hk : k < 8) : 774 + k < h.1 ∧ (h.2 (774 + k)).1 = 0 ∧ (0 < 16 → (h.2 (774 + k)).2.1 = 4) := by
  obtain ⟨-, -, ⟨a, b⟩, -⟩ := rwB k hk
  have n : 2628 ≤ h.1 := J.1.1.1
  obtain ⟨x, y⟩ := J.1.1.2 (774 + k) (by omega) (show 774 + k < 2628 by omega)
  exact ⟨by omega, x.trans a, fun _ => (y (by rw [x, a]; decide)).trans b⟩
theorem rc783 {h : MH} (J : JJ zJ h) {k : Nat} (hk : k < 8) : 783 + k < h.1 ∧ (h.2 (783 + k)).1 = 0 ∧ (0 < 16 → (h.2 (783 + k)).2.1 = 4) := by
  obtain ⟨-, -, -, ⟨a, b⟩⟩ := rwB k hk
  have n : 2628 ≤ h.1 := J.1.1.1
  obtain ⟨x, y⟩ := J.1.1.2 (783 + k) (by omega) (show 783 + k < 2628 by omega)
  exact ⟨by omega, x.trans a, fun _ => (y (by rw [x, a]; decide)).trans b⟩
theorem ga_rg8 {h : MH} {k : Nat} {x : Int} (x0 : 0 ≤ x) (x1 : x < 1099511627776) : rg8 h (k : Int) x = ga h (774 + k) x := by
  unfold rg8
  rw [show (774 : Int) + (k : Int) = ((774 + k : Nat) : Int) by omega]
  exact ga_gz x0 x1
theorem ga_cy8 {h : MH} {k : Nat} {x : Int} (x0 : 0 ≤ x) (x1 : x < 1099511627776) : cy8 h (k : Int) x = ga h (783 + k) x := by
  unfold cy8
  rw [show (783 : Int) + (k : Int) = ((783 + k : Nat) : Int) by omega]
  exact ga_gz x0 x1

set_option maxRecDepth 20000 in
set_option maxHeartbeats 8000000 in
theorem w_born {h : MH} (J : JJ zJ h) (q : LQb h) (c : Int) (w : UInt64) : MCal KX8_bornBetween yX8_bornBetween 0 0 [(2, ((618 : Nat) : Int)), (0, c), (3, (w.toNat : Int))] h (mRD fun v h' => h' = h ∧ ∃ r : UInt64, v = (r.toNat : Int) ∧ LJ (nl8 h c) (rg8 h c) (cy8 h c) w r) := by
  refine MCal.ofMW (Or.inr (Or.inl rfl)) ⟨cp_X8, rfl⟩ (Nat.le_of_ble_eq_true rfl) ?_
  have g : Str [(618, 24, 0), (773, 6, 8), (782, 6, 8), (791, 0, 8)] [(618, 7, 773), (618, 8, 782), (618, 9, 791)] h := str_of (by decide +kernel) J.1
  have pk := pkX8_bornBetween
  show MW KX8_bornBetween _ 0 0 (pcA pgX8_bornBetween 0) [(0, (2, ((618 : Nat) : Int))), (1, (0, c)), (2, (3, (w.toNat : Int)))] [] h
  have ret : ∀ (r : UInt64) (L : List (Nat × MV)) (i : Nat), decode KX8_bornBetween.2.2.1 (pcA pgX8_bornBetween i) = .ok (.dreturn, 1) → LJ (nl8 h c) (rg8 h c) (cy8 h c) w r → MW KX8_bornBetween (mRD fun v h' => h' = h ∧ ∃ r : UInt64, v = (r.toNat : Int) ∧ LJ (nl8 h c) (rg8 h c) (cy8 h c) w r) 0 0 (pcA pgX8_bornBetween i) L [(3, (r.toNat : Int))] h := fun r L i d z => m_dreturn (K := KX8_bornBetween) d rfl ⟨rfl, rfl, rfl, r, rfl, z⟩
  have low : ∀ (L : List (Nat × MV)), LJ (nl8 h c) (rg8 h c) (cy8 h c) w mone → MW KX8_bornBetween (mRD fun v h' => h' = h ∧ ∃ r : UInt64, v = (r.toNat : Int) ∧ LJ (nl8 h c) (rg8 h c) (cy8 h c) w r) 0 0 (pcA pgX8_bornBetween 26) L [] h := fun L z => m_ldc2d (K := KX8_bornBetween) (v := mone) (by decide +kernel) lcX8_217 (hd_pc (by decide +kernel : pcA pgX8_bornBetween 26 + 3 = pcA pgX8_bornBetween 27) (ret mone L 27 (by decide +kernel) z))
  have main : ∀ n : Int, n = nl8 h c → MW KX8_bornBetween (mRD fun v h' => h' = h ∧ ∃ r : UInt64, v = (r.toNat : Int) ∧ LJ (nl8 h c) (rg8 h c) (cy8 h c) w r) 0 0 (pcA pgX8_bornBetween 11) [(0, (2, ((618 : Nat) : Int))), (1, (0, c)), (2, (3, (w.toNat : Int)))] [(0, n)] h := by
    intro n hn
    refine hd_istore pkX8_bornBetween rfl rfl ?_
    refine hd_iload pkX8_bornBetween rfl rfl ?_
    refine hd_if_eq pkX8_bornBetween rfl (fun z => low _ (Or.inl ⟨Or.inl (by omega), rfl⟩)) (fun z => ?_)
    have hc : 0 ≤ c ∧ c < 8 := Classical.byContradiction fun y => z (hn.trans (if_neg y))
    have hn2 : n = ln8 h c := hn.trans (if_pos hc)
    obtain ⟨⟨l0, l4⟩, lb, -⟩ := q c hc.1 hc.2
    obtain ⟨k, rfl⟩ := Int.eq_ofNat_of_zero_le hc.1
    have hk : k < 8 := by omega
    rw [hn] at hn2
    rw [← hn2, ← hn] at l0 l4 lb
    refine m_dload_n (K := KX8_bornBetween) (j := 2) (by decide +kernel) rfl ?_
    refine hd_pc (by decide +kernel : pcA pgX8_bornBetween 14 + 1 = pcA pgX8_bornBetween 15) ?_
    refine hd_aload pkX8_bornBetween rfl rfl (Int.natCast_nonneg _) ?_
    refine hd_getR (n := 773) pkX8_bornBetween rfl (g.cell 0 rfl).1 (g.cell 0 rfl).2.1 (g.ref 0 rfl) ?_
    refine hd_iload pkX8_bornBetween rfl rfl ?_
    refine hd_aald (n := 8) (r := 774 + k) pkX8_bornBetween rfl ⟨(g.cell 1 rfl).1, (g.cell 1 rfl).2.1, (g.cell 1 rfl).2.2 (by decide)⟩ (by omega) (by omega) (row773 J hk) ?_
    refine hd_iload pkX8_bornBetween rfl rfl ?_
    refine hd_ipush (z := 1) pkX8_bornBetween rfl ?_
    refine hd_isub pkX8_bornBetween rfl (by omega) ?_
    refine hd_iald (c := 774 + k) (n := 4) pkX8_bornBetween rfl (rc774 J hk) (by omega) (by omega) (fun v1 ev1 rv1 => ?_)
    have qv1 : v1 = rg8 h (k : Int) ((n - 1)) := ev1.trans (ga_rg8 (by omega) (by omega)).symm
    refine m_i2d (K := KX8_bornBetween) (by decide +kernel) ?_
    refine hd_pc (by decide +kernel : pcA pgX8_bornBetween 23 + 1 = pcA pgX8_bornBetween 24) ?_
    rw [F64_i (z := v1) (by omega)]
    have bv1 := (lb (n - 1) (by omega) (by omega)).1
    refine m_dcmp (K := KX8_bornBetween) (op := .l) (by decide +kernel) ?_
    refine hd_pc (by decide +kernel : pcA pgX8_bornBetween 24 + 1 = pcA pgX8_bornBetween 25) ?_
    rw [show dv ((w).toNat : Int) = w from mDb _, show dv ((F64 v1).toNat : Int) = F64 v1 from mDb _]
    have cy1 := cm_of (w := w) (x := F64 v1) (F64_nn (by omega)) .l
    generalize (Op.cmpValue (FP.dcmp (w) (F64 v1)) .l).toInt = y1 at cy1 ⊢
    refine hd_if_ge pkX8_bornBetween rfl (fun z1 => ?_) (fun z1 => ?_)
    rotate_left
    · refine low _ (Or.inl ⟨?_, rfl⟩)
      rw [← hn, ← qv1]
      rcases cy1 with ⟨y, -⟩ | ⟨-, ⟨y, -⟩ | ⟨y, e⟩ | ⟨y, e⟩⟩
      · exact Or.inr (Or.inl y)
      · exact Or.inr (Or.inr y)
      · omega
      · omega
    have t1 : ¬ nanD w ∧ dK (F64 (rg8 h (k : Int) (n - 1))) ≤ dK w := by
      rw [← qv1]
      rcases cy1 with ⟨y, e⟩ | ⟨y, ⟨y2, e⟩ | ⟨y2, e⟩ | ⟨y2, e⟩⟩
      · have e : y1 = -1 := e
        omega
      · omega
      · exact ⟨y, by omega⟩
      · exact ⟨y, by omega⟩
    refine m_dload_n (K := KX8_bornBetween) (j := 2) (by decide +kernel) rfl ?_
    refine hd_pc (by decide +kernel : pcA pgX8_bornBetween 28 + 1 = pcA pgX8_bornBetween 29) ?_
    refine hd_aload pkX8_bornBetween rfl rfl (Int.natCast_nonneg _) ?_
    refine hd_getR (n := 773) pkX8_bornBetween rfl (g.cell 0 rfl).1 (g.cell 0 rfl).2.1 (g.ref 0 rfl) ?_
    refine hd_iload pkX8_bornBetween rfl rfl ?_
    refine hd_aald (n := 8) (r := 774 + k) pkX8_bornBetween rfl ⟨(g.cell 1 rfl).1, (g.cell 1 rfl).2.1, (g.cell 1 rfl).2.2 (by decide)⟩ (by omega) (by omega) (row773 J hk) ?_
    refine hd_ipush (z := 0) pkX8_bornBetween rfl ?_
    refine hd_iald (c := 774 + k) (n := 4) pkX8_bornBetween rfl (rc774 J hk) (by omega) (by omega) (fun v2 ev2 rv2 => ?_)
    have qv2 : v2 = rg8 h (k : Int) (0) := ev2.trans (ga_rg8 (by omega) (by omega)).symm
    refine m_i2d (K := KX8_bornBetween) (by decide +kernel) ?_
    refine hd_pc (by decide +kernel : pcA pgX8_bornBetween 35 + 1 = pcA pgX8_bornBetween 36) ?_
    rw [F64_i (z := v2) (by omega)]
    refine m_dcmp (K := KX8_bornBetween) (op := .l) (by decide +kernel) ?_
    refine hd_pc (by decide +kernel : pcA pgX8_bornBetween 36 + 1 = pcA pgX8_bornBetween 37) ?_
    rw [show dv ((w).toNat : Int) = w from mDb _, show dv ((F64 v2).toNat : Int) = F64 v2 from mDb _]
    have cy2 := cm_of (w := w) (x := F64 v2) (F64_nn (by omega)) .l
    generalize (Op.cmpValue (FP.dcmp (w) (F64 v2)) .l).toInt = y2 at cy2 ⊢
    refine hd_if_lt pkX8_bornBetween rfl (fun z2 => ?_) (fun z2 => ?_)
    rotate_left
    · skip
      refine hd_aload pkX8_bornBetween rfl rfl (Int.natCast_nonneg _) ?_
      refine hd_getR (n := 782) pkX8_bornBetween rfl (g.cell 0 rfl).1 (g.cell 0 rfl).2.1 (g.ref 1 rfl) ?_
      refine hd_iload pkX8_bornBetween rfl rfl ?_
      refine hd_aald (n := 8) (r := 783 + k) pkX8_bornBetween rfl ⟨(g.cell 2 rfl).1, (g.cell 2 rfl).2.1, (g.cell 2 rfl).2.2 (by decide)⟩ (by omega) (by omega) (row782 J hk) ?_
      refine hd_ipush (z := 0) pkX8_bornBetween rfl ?_
      refine hd_iald (c := 783 + k) (n := 4) pkX8_bornBetween rfl (rc783 J hk) (by omega) (by omega) (fun v3 ev3 rv3 => ?_)
      have qv3 : v3 = cy8 h (k : Int) (0) := ev3.trans (ga_cy8 (by omega) (by omega)).symm
      refine m_i2d (K := KX8_bornBetween) (by decide +kernel) ?_
      refine hd_pc (by decide +kernel : pcA pgX8_bornBetween 44 + 1 = pcA pgX8_bornBetween 45) ?_
      rw [F64_i (z := v3) (by omega)]
      refine ret _ _ 45 (by decide +kernel) (Or.inr ⟨by omega, t1.1, by rw [← hn]; exact t1.2, Or.inl ⟨?_, by rw [qv3]⟩⟩)
      rw [← qv2]
      rcases cy2 with ⟨y, -⟩ | ⟨-, ⟨y, e⟩ | ⟨y, e⟩ | ⟨y, e⟩⟩
      · exact absurd y t1.1
      · omega
      · omega
      · omega
    have t2 : dK w < dK (F64 (rg8 h (k : Int) 0)) := by
      rw [← qv2]
      rcases cy2 with ⟨y, -⟩ | ⟨-, ⟨y, e⟩ | ⟨y, e⟩ | ⟨y, e⟩⟩
      · exact absurd y t1.1
      · exact y
      · omega
      · omega
    have n2 : 2 ≤ n := by
      rcases (show n = 1 ∨ 2 ≤ n by omega) with y | y
      · subst y
        have := t1.2
        rw [show (1 : Int) - 1 = 0 by decide] at this
        omega
      · exact y
    have last : ∀ b : Int, 1 ≤ b → b ≤ n - 1 → dK (F64 (rg8 h (k : Int) b)) ≤ dK w → dK w < dK (F64 (rg8 h (k : Int) (b - 1))) → MW KX8_bornBetween (mRD fun v h' => h' = h ∧ ∃ r : UInt64, v = (r.toNat : Int) ∧ LJ (nl8 h (k : Int)) (rg8 h (k : Int)) (cy8 h (k : Int)) w r) 0 0 (pcA pgX8_bornBetween 65) [(5, (0, b)), (4, (0, n)), (0, (2, ((618 : Nat) : Int))), (1, (0, (k : Int))), (2, (3, (w.toNat : Int)))] [] h := by
      intro b b1 bn s1 s2
      have bb := lb b (by omega) (by omega)
      have bp := lb (b - 1) (by omega) (by omega)
      refine hd_aload pkX8_bornBetween rfl rfl (Int.natCast_nonneg _) ?_
      refine hd_getR (n := 773) pkX8_bornBetween rfl (g.cell 0 rfl).1 (g.cell 0 rfl).2.1 (g.ref 0 rfl) ?_
      refine hd_iload pkX8_bornBetween rfl rfl ?_
      refine hd_aald (n := 8) (r := 774 + k) pkX8_bornBetween rfl ⟨(g.cell 1 rfl).1, (g.cell 1 rfl).2.1, (g.cell 1 rfl).2.2 (by decide)⟩ (by omega) (by omega) (row773 J hk) ?_
      refine hd_iload pkX8_bornBetween rfl rfl ?_
      refine hd_ipush (z := 1) pkX8_bornBetween rfl ?_
      refine hd_isub pkX8_bornBetween rfl (by omega) ?_
      refine hd_iald (c := 774 + k) (n := 4) pkX8_bornBetween rfl (rc774 J hk) (by omega) (by omega) (fun v4 ev4 rv4 => ?_)
      have qv4 : v4 = rg8 h (k : Int) ((b - 1)) := ev4.trans (ga_rg8 (by omega) (by omega)).symm
      refine m_i2d (K := KX8_bornBetween) (by decide +kernel) ?_
      refine hd_pc (by decide +kernel : pcA pgX8_bornBetween 73 + 1 = pcA pgX8_bornBetween 74) ?_
      rw [F64_i (z := v4) (by omega)]
      refine m_dstore (K := KX8_bornBetween) (i := 6) (pcA pgX8_bornBetween 75) (by decide +kernel) (by decide +kernel) (by decide) ?_
      refine hd_aload pkX8_bornBetween rfl rfl (Int.natCast_nonneg _) ?_
      refine hd_getR (n := 782) pkX8_bornBetween rfl (g.cell 0 rfl).1 (g.cell 0 rfl).2.1 (g.ref 1 rfl) ?_
      refine hd_iload pkX8_bornBetween rfl rfl ?_
      refine hd_aald (n := 8) (r := 783 + k) pkX8_bornBetween rfl ⟨(g.cell 2 rfl).1, (g.cell 2 rfl).2.1, (g.cell 2 rfl).2.2 (by decide)⟩ (by omega) (by omega) (row782 J hk) ?_
      refine hd_iload pkX8_bornBetween rfl rfl ?_
      refine hd_iald (c := 783 + k) (n := 4) pkX8_bornBetween rfl (rc783 J hk) (by omega) (by omega) (fun v5 ev5 rv5 => ?_)
      have qv5 : v5 = cy8 h (k : Int) (b) := ev5.trans (ga_cy8 (by omega) (by omega)).symm
      refine hd_aload pkX8_bornBetween rfl rfl (Int.natCast_nonneg _) ?_
      refine hd_getR (n := 782) pkX8_bornBetween rfl (g.cell 0 rfl).1 (g.cell 0 rfl).2.1 (g.ref 1 rfl) ?_
      refine hd_iload pkX8_bornBetween rfl rfl ?_
      refine hd_aald (n := 8) (r := 783 + k) pkX8_bornBetween rfl ⟨(g.cell 2 rfl).1, (g.cell 2 rfl).2.1, (g.cell 2 rfl).2.2 (by decide)⟩ (by omega) (by omega) (row782 J hk) ?_
      refine hd_iload pkX8_bornBetween rfl rfl ?_
      refine hd_ipush (z := 1) pkX8_bornBetween rfl ?_
      refine hd_isub pkX8_bornBetween rfl (by omega) ?_
      refine hd_iald (c := 783 + k) (n := 4) pkX8_bornBetween rfl (rc783 J hk) (by omega) (by omega) (fun v6 ev6 rv6 => ?_)
      have qv6 : v6 = cy8 h (k : Int) ((b - 1)) := ev6.trans (ga_cy8 (by omega) (by omega)).symm
      refine hd_isub pkX8_bornBetween rfl (by omega) ?_
      refine m_i2d (K := KX8_bornBetween) (by decide +kernel) ?_
      refine hd_pc (by decide +kernel : pcA pgX8_bornBetween 90 + 1 = pcA pgX8_bornBetween 91) ?_
      rw [F64_i (z := (v5 - v6)) (by omega)]
      refine m_dstore (K := KX8_bornBetween) (i := 8) (pcA pgX8_bornBetween 92) (by decide +kernel) (by decide +kernel) (by decide) ?_
      refine hd_aload pkX8_bornBetween rfl rfl (Int.natCast_nonneg _) ?_
      refine hd_getR (n := 782) pkX8_bornBetween rfl (g.cell 0 rfl).1 (g.cell 0 rfl).2.1 (g.ref 1 rfl) ?_
      refine hd_iload pkX8_bornBetween rfl rfl ?_
      refine hd_aald (n := 8) (r := 783 + k) pkX8_bornBetween rfl ⟨(g.cell 2 rfl).1, (g.cell 2 rfl).2.1, (g.cell 2 rfl).2.2 (by decide)⟩ (by omega) (by omega) (row782 J hk) ?_
      refine hd_iload pkX8_bornBetween rfl rfl ?_
      refine hd_ipush (z := 1) pkX8_bornBetween rfl ?_
      refine hd_isub pkX8_bornBetween rfl (by omega) ?_
      refine hd_iald (c := 783 + k) (n := 4) pkX8_bornBetween rfl (rc783 J hk) (by omega) (by omega) (fun v7 ev7 rv7 => ?_)
      have qv7 : v7 = cy8 h (k : Int) ((b - 1)) := ev7.trans (ga_cy8 (by omega) (by omega)).symm
      refine m_i2d (K := KX8_bornBetween) (by decide +kernel) ?_
      refine hd_pc (by decide +kernel : pcA pgX8_bornBetween 100 + 1 = pcA pgX8_bornBetween 101) ?_
      rw [F64_i (z := v7) (by omega)]
      refine m_dload (K := KX8_bornBetween) (i := 8) (by decide +kernel) rfl ?_
      refine hd_pc (by decide +kernel : pcA pgX8_bornBetween 101 + 2 = pcA pgX8_bornBetween 102) ?_
      refine m_dload (K := KX8_bornBetween) (i := 6) (by decide +kernel) rfl ?_
      refine hd_pc (by decide +kernel : pcA pgX8_bornBetween 102 + 2 = pcA pgX8_bornBetween 103) ?_
      refine m_dload_n (K := KX8_bornBetween) (j := 2) (by decide +kernel) rfl ?_
      refine hd_pc (by decide +kernel : pcA pgX8_bornBetween 103 + 1 = pcA pgX8_bornBetween 104) ?_
      refine m_dsub (K := KX8_bornBetween) rfl (by decide +kernel) (fun d8 ad8 => ?_)
      have ad8 : AL d8 (FP.dsub (F64 v4) (w)) := AL_iff.mp (by simp only [dv_n] at ad8; exact ad8)
      refine hd_pc (by decide +kernel : pcA pgX8_bornBetween 104 + 1 = pcA pgX8_bornBetween 105) ?_
      refine m_dmul (K := KX8_bornBetween) rfl (by decide +kernel) (fun d9 ad9 => ?_)
      have ad9 : AL d9 (FP.dmul (F64 (v5 - v6)) (d8)) := AL_iff.mp (by simp only [dv_n] at ad9; exact ad9)
      refine hd_pc (by decide +kernel : pcA pgX8_bornBetween 105 + 1 = pcA pgX8_bornBetween 106) ?_
      refine m_dload (K := KX8_bornBetween) (i := 6) (by decide +kernel) rfl ?_
      refine hd_pc (by decide +kernel : pcA pgX8_bornBetween 106 + 2 = pcA pgX8_bornBetween 107) ?_
      refine hd_aload pkX8_bornBetween rfl rfl (Int.natCast_nonneg _) ?_
      refine hd_getR (n := 773) pkX8_bornBetween rfl (g.cell 0 rfl).1 (g.cell 0 rfl).2.1 (g.ref 0 rfl) ?_
      refine hd_iload pkX8_bornBetween rfl rfl ?_
      refine hd_aald (n := 8) (r := 774 + k) pkX8_bornBetween rfl ⟨(g.cell 1 rfl).1, (g.cell 1 rfl).2.1, (g.cell 1 rfl).2.2 (by decide)⟩ (by omega) (by omega) (row773 J hk) ?_
      refine hd_iload pkX8_bornBetween rfl rfl ?_
      refine hd_iald (c := 774 + k) (n := 4) pkX8_bornBetween rfl (rc774 J hk) (by omega) (by omega) (fun v10 ev10 rv10 => ?_)
      have qv10 : v10 = rg8 h (k : Int) (b) := ev10.trans (ga_rg8 (by omega) (by omega)).symm
      refine m_i2d (K := KX8_bornBetween) (by decide +kernel) ?_
      refine hd_pc (by decide +kernel : pcA pgX8_bornBetween 113 + 1 = pcA pgX8_bornBetween 114) ?_
      rw [F64_i (z := v10) (by omega)]
      refine m_dsub (K := KX8_bornBetween) rfl (by decide +kernel) (fun d11 ad11 => ?_)
      have ad11 : AL d11 (FP.dsub (F64 v4) (F64 v10)) := AL_iff.mp (by simp only [dv_n] at ad11; exact ad11)
      refine hd_pc (by decide +kernel : pcA pgX8_bornBetween 114 + 1 = pcA pgX8_bornBetween 115) ?_
      refine m_ddiv (K := KX8_bornBetween) rfl (by decide +kernel) (fun d12 ad12 => ?_)
      have ad12 : AL d12 (FP.ddiv (d9) (d11)) := AL_iff.mp (by simp only [dv_n] at ad12; exact ad12)
      refine hd_pc (by decide +kernel : pcA pgX8_bornBetween 115 + 1 = pcA pgX8_bornBetween 116) ?_
      refine m_dadd (K := KX8_bornBetween) rfl (by decide +kernel) (fun d13 ad13 => ?_)
      have ad13 : AL d13 (FP.dadd (F64 v7) (d12)) := AL_iff.mp (by simp only [dv_n] at ad13; exact ad13)
      refine hd_pc (by decide +kernel : pcA pgX8_bornBetween 116 + 1 = pcA pgX8_bornBetween 117) ?_
      have f3 : d11 = F64 (rg8 h (k : Int) (b - 1) - rg8 h (k : Int) b) := by
        have z := ad11
        simp only [qv4, qv5, qv6, qv7, qv10] at z
        rw [F64_sub (by omega) (by omega)] at z
        rcases z with z | ⟨-, z⟩
        · exact z
        · exact absurd z (F64_nn (by omega))
      refine ret _ _ 117 (by decide +kernel) (Or.inr ⟨by omega, t1.1, by rw [← hn]; exact t1.2, Or.inr ⟨t2, b, b1, by omega, s1, s2, d8, d9, d12, ?_, ?_, ?_, ?_⟩⟩)
      · have z := ad8
        simp only [qv4, qv5, qv6, qv7, qv10] at z
        exact z
      · have z := ad9
        simp only [qv4, qv5, qv6, qv7, qv10] at z
        exact z
      · rw [← f3]
        exact ad12
      · have z := ad13
        simp only [qv4, qv5, qv6, qv7, qv10] at z
        exact z
    refine hd_ipush (z := 1) pkX8_bornBetween rfl ?_
    refine hd_istore pkX8_bornBetween rfl rfl ?_
    have loop : ∀ (N : Nat) (b : Int), 1 ≤ b → b ≤ n - 1 → n - b ≤ (N : Int) → dK w < dK (F64 (rg8 h (k : Int) (b - 1))) → MW KX8_bornBetween (mRD fun v h' => h' = h ∧ ∃ r : UInt64, v = (r.toNat : Int) ∧ LJ (nl8 h (k : Int)) (rg8 h (k : Int)) (cy8 h (k : Int)) w r) 0 0 (pcA pgX8_bornBetween 48) [(5, (0, b)), (4, (0, n)), (0, (2, ((618 : Nat) : Int))), (1, (0, (k : Int))), (2, (3, (w.toNat : Int)))] [] h := by
      intro N
      induction N with
      | zero => intro b b1 bn hm; omega
      | succ N ih =>
        intro b b1 bn hm s2
        refine hd_iload pkX8_bornBetween rfl rfl ?_
        refine hd_iload pkX8_bornBetween rfl rfl ?_
        refine hd_ipush (z := 1) pkX8_bornBetween rfl ?_
        refine hd_isub pkX8_bornBetween rfl (by omega) ?_
        refine hd_ic_ge pkX8_bornBetween rfl (fun z3 => ?_) (fun z3 => ?_)
        · have e : b = n - 1 := by omega
          subst e
          exact last _ b1 bn t1.2 s2
        have bb := lb b (by omega) (by omega)
        refine m_dload_n (K := KX8_bornBetween) (j := 2) (by decide +kernel) rfl ?_
        refine hd_pc (by decide +kernel : pcA pgX8_bornBetween 53 + 1 = pcA pgX8_bornBetween 54) ?_
        refine hd_aload pkX8_bornBetween rfl rfl (Int.natCast_nonneg _) ?_
        refine hd_getR (n := 773) pkX8_bornBetween rfl (g.cell 0 rfl).1 (g.cell 0 rfl).2.1 (g.ref 0 rfl) ?_
        refine hd_iload pkX8_bornBetween rfl rfl ?_
        refine hd_aald (n := 8) (r := 774 + k) pkX8_bornBetween rfl ⟨(g.cell 1 rfl).1, (g.cell 1 rfl).2.1, (g.cell 1 rfl).2.2 (by decide)⟩ (by omega) (by omega) (row773 J hk) ?_
        refine hd_iload pkX8_bornBetween rfl rfl ?_
        refine hd_iald (c := 774 + k) (n := 4) pkX8_bornBetween rfl (rc774 J hk) (by omega) (by omega) (fun v14 ev14 rv14 => ?_)
        have qv14 : v14 = rg8 h (k : Int) (b) := ev14.trans (ga_rg8 (by omega) (by omega)).symm
        refine m_i2d (K := KX8_bornBetween) (by decide +kernel) ?_
        refine hd_pc (by decide +kernel : pcA pgX8_bornBetween 60 + 1 = pcA pgX8_bornBetween 61) ?_
        rw [F64_i (z := v14) (by omega)]
        refine m_dcmp (K := KX8_bornBetween) (op := .g) (by decide +kernel) ?_
        refine hd_pc (by decide +kernel : pcA pgX8_bornBetween 61 + 1 = pcA pgX8_bornBetween 62) ?_
        rw [show dv ((w).toNat : Int) = w from mDb _, show dv ((F64 v14).toNat : Int) = F64 v14 from mDb _]
        have cy3 := cm_of (w := w) (x := F64 v14) (F64_nn (by omega)) .g
        generalize (Op.cmpValue (FP.dcmp (w) (F64 v14)) .g).toInt = y3 at cy3 ⊢
        refine hd_if_ge pkX8_bornBetween rfl (fun z4 => ?_) (fun z4 => ?_)
        · refine last b b1 bn ?_ s2
          rw [← qv14]
          rcases cy3 with ⟨y, -⟩ | ⟨-, ⟨y, e⟩ | ⟨y, e⟩ | ⟨y, e⟩⟩
          · exact absurd y t1.1
          · omega
          · omega
          · omega
        refine hd_iinc (z := 1) pkX8_bornBetween rfl rfl (by omega) rfl ?_
        refine hd_goto pkX8_bornBetween rfl ?_
        refine m_sub [(5, (0, b + 1)), (4, (0, n)), (0, (2, ((618 : Nat) : Int))), (1, (0, (k : Int))), (2, (3, (w.toNat : Int)))] (List.forall_mem_cons.mpr ⟨rfl, List.forall_mem_cons.mpr ⟨rfl, List.forall_mem_cons.mpr ⟨rfl, List.forall_mem_cons.mpr ⟨rfl, List.forall_mem_cons.mpr ⟨rfl, fun _ z => absurd z List.not_mem_nil⟩⟩⟩⟩⟩) ?_
        refine ih (b + 1) (by omega) (by omega) (by omega) ?_
        rw [show b + 1 - 1 = b by omega, ← qv14]
        rcases cy3 with ⟨y, -⟩ | ⟨-, ⟨y, e⟩ | ⟨y, e⟩ | ⟨y, e⟩⟩
        · exact absurd y t1.1
        · exact y
        · omega
        · omega
    refine m_sub [(5, (0, 1)), (4, (0, n)), (0, (2, ((618 : Nat) : Int))), (1, (0, (k : Int))), (2, (3, (w.toNat : Int)))] (List.forall_mem_cons.mpr ⟨rfl, List.forall_mem_cons.mpr ⟨rfl, List.forall_mem_cons.mpr ⟨rfl, List.forall_mem_cons.mpr ⟨rfl, List.forall_mem_cons.mpr ⟨rfl, fun _ z => absurd z List.not_mem_nil⟩⟩⟩⟩⟩) ?_
    exact loop n.toNat 1 (by decide) (by omega) (by omega) t2
  refine hd_iload pkX8_bornBetween rfl rfl ?_
  refine hd_if_lt pkX8_bornBetween rfl (fun z => ?_) (fun z => ?_)
  · refine hd_ipush (z := 0) pkX8_bornBetween rfl ?_
    refine hd_goto pkX8_bornBetween rfl ?_
    exact main 0 (if_neg (by omega)).symm
  refine hd_iload pkX8_bornBetween rfl rfl ?_
  refine hd_ipush (z := 8) pkX8_bornBetween rfl ?_
  refine hd_ic_lt pkX8_bornBetween rfl (fun z1 => ?_) (fun z1 => ?_)
  rotate_left
  · refine hd_ipush (z := 0) pkX8_bornBetween rfl ?_
    refine hd_goto pkX8_bornBetween rfl ?_
    exact main 0 (if_neg (by omega)).symm
  refine hd_aload pkX8_bornBetween rfl rfl (Int.natCast_nonneg _) ?_
  refine hd_getR (n := 791) pkX8_bornBetween rfl (g.cell 0 rfl).1 (g.cell 0 rfl).2.1 (g.ref 2 rfl) ?_
  refine hd_iload pkX8_bornBetween rfl rfl ?_
  refine hd_iald (c := 791) (n := 8) pkX8_bornBetween rfl ⟨(g.cell 3 rfl).1, (g.cell 3 rfl).2.1, (g.cell 3 rfl).2.2⟩ (by omega) (by omega) (fun v15 ev15 rv15 => ?_)
  have qv15 : v15 = gz h 791 (c) := ev15.trans (ga_gz (c := 791) (by omega) (by omega)).symm
  exact main v15 (qv15.trans (if_pos (⟨by omega, z1⟩ : 0 ≤ c ∧ c < 8)).symm)
