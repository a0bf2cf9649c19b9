/-! the area above 0, piece by piece -/
def Ar9 (F : Rat) (j : Nat) (r : Rat) : Prop := ∃ d : Rat, isZ d ∧ d ≠ 0 ∧ ab d ≤ (2 * Vm) ^ j ∧ isZ (8 * d * F * r) ∧ ab (F * r) ≤ 3 * (j : Rat) * Vm
/-- a piece, its lower part's share c -/
def Pc9 (F q : Rat) : Prop := ∃ c : Rat, isZ c ∧ c ≠ 0 ∧ ab c ≤ 2 * Vm ∧ isZ (8 * c * F * q) ∧ ab (F * q) ≤ 3 * Vm
theorem Vm_one : 1 ≤ Vm := by decide +kernel
theorem isZ_one : isZ 1 := ⟨1, rfl⟩
theorem isZ_zero : isZ 0 := ⟨0, rfl⟩
theorem Ar9.zero {F : Rat} : Ar9 F 0 0 := by
  have v := Vm_one
  refine ⟨1, isZ_one, by decide, ?_, ?_, ?_⟩
  · rw [Rat.pow_zero, ab_pos (by decide)]
    exact Rat.le_refl
  · rw [Rat.mul_zero]
    exact isZ_zero
  · rw [Rat.mul_zero, ab_pos Rat.le_refl]
    exact Rat.mul_nonneg (by decide +kernel) (by grind)
theorem Ar9.add {F r q : Rat} {j : Nat} (a : Ar9 F j r) (p : Pc9 F q) : Ar9 F (j + 1) (r + q) := by
  obtain ⟨d, d1, d0, db, dz, dr⟩ := a
  obtain ⟨c, c1, c0, cb, cz, cr⟩ := p
  refine ⟨d * c, d1.mul c1, fun h => (Rat.mul_eq_zero.mp h).elim d0 c0, ?_, ?_, ?_⟩
  · rw [ab_mul, Rat.pow_succ]
    exact mul_le_mul2 (ab_nn _) db (ab_nn _) cb
  · have e : 8 * (d * c) * F * (r + q) = c * (8 * d * F * r) + d * (8 * c * F * q) := by grind
    rw [e]
    exact (c1.mul dz).add (d1.mul cz)
  · have e : F * (r + q) = F * r + F * q := by grind
    have t := ab_add (F * r) (F * q)
    have e2 : ((j + 1 : Nat) : Rat) = (j : Rat) + 1 := by
      rw [Rat.natCast_add]
      rfl
    rw [e, e2]
    grind
theorem Pc9.zero {F : Rat} : Pc9 F 0 := by
  have v := Vm_one
  refine ⟨1, isZ_one, by decide, ?_, ?_, ?_⟩
  · rw [ab_pos (by decide)]
    grind
  · rw [Rat.mul_zero]
    exact isZ_zero
  · rw [Rat.mul_zero, ab_pos Rat.le_refl]
    grind
theorem Ar9.skip {F r : Rat} {j : Nat} (a : Ar9 F j r) : Ar9 F (j + 1) r := by
  have x := a.add Pc9.zero
  rw [Rat.add_zero] at x
  exact x
theorem pow_up {x : Rat} (h : 1 ≤ x) (i : Nat) : ∀ n : Nat, x ^ i ≤ x ^ (i + n) ∧ 0 ≤ x ^ (i + n)
  | 0 => ⟨Rat.le_refl, Rat.pow_nonneg (by grind)⟩
  | n + 1 => by
    have a := pow_up h i n
    rw [show i + (n + 1) = i + n + 1 by omega, Rat.pow_succ]
    have b := le_mul_one a.2 h
    exact ⟨by grind, by grind⟩
def Fk9 (F : Rat) : Prop := (isZ F) ∧ (F ≠ 0) ∧ (ab F ≤ 294912 * OM)
theorem Fk9.z {F : Rat} (h : Fk9 F) : isZ F := h.1
theorem Fk9.n {F : Rat} (h : Fk9 F) : F ≠ 0 := h.2.1
theorem Fk9.b {F : Rat} (h : Fk9 F) : ab F ≤ 294912 * OM := h.2.2
theorem Fk9.mk {F : Rat} (hz : isZ F) (hn : F ≠ 0) (hb : ab F ≤ 294912 * OM) : Fk9 F := ⟨hz, hn, hb⟩
theorem mul3 {a b c x y z : Rat} (a0 : 0 ≤ a) (ax : a ≤ x) (b0 : 0 ≤ b) (by' : b ≤ y) (c0 : 0 ≤ c) (cz : c ≤ z) : a * b * c ≤ x * y * z := mul_le_mul2 (Rat.mul_nonneg a0 b0) (mul_le_mul2 a0 ax b0 by') c0 cz
theorem Ar9.sz {F r : Rat} {j : Nat} (k : Fk9 F) (a : Ar9 F j r) (h : j ≤ 11) : SzQ 53 r := by
  obtain ⟨d, d1, d0, db, dz, dr⟩ := a
  have v := Vm_one
  have pu := (pow_up (x := 2 * Vm) (by grind) j (11 - j)).1
  rw [show j + (11 - j) = 11 by omega] at pu
  have d2 : ab d ≤ (2 * Vm) ^ 11 := Rat.le_trans db pu
  have e8 : ab 8 = 8 := ab_pos (by decide)
  have p1 : 8 * (2 * Vm) ^ 11 * (294912 * OM) < ((PW 53 : Int) : Rat) := by decide +kernel
  have p2 : 8 * (2 * Vm) ^ 11 * (3 * 11 * Vm) < ((PW 53 : Int) : Rat) := by decide +kernel
  refine sz_of (d := 8 * d * F) ((isZ.mul ⟨8, rfl⟩ d1).mul k.z) (fun h => ?_) dz ?_ ?_
  · rcases Rat.mul_eq_zero.mp h with h | h
    · exact (Rat.mul_eq_zero.mp h).elim (by decide) d0
    · exact k.n h
  · have m := mul3 (a := 8) (x := 8) (by decide) Rat.le_refl (ab_nn d) d2 (ab_nn F) k.b
    rw [ab_mul, ab_mul, e8]
    grind
  · have j1 : (j : Rat) ≤ ((11 : Nat) : Rat) := Rat.natCast_le_natCast.mpr h
    have j2 : ((11 : Nat) : Rat) = 11 := rfl
    rw [j2] at j1
    have m1 := Rat.mul_le_mul_of_nonneg_right (show 3 * (j : Rat) ≤ 3 * 11 by grind) (show (0 : Rat) ≤ Vm by grind)
    have m := mul3 (a := 8) (x := 8) (by decide) Rat.le_refl (ab_nn d) d2 (ab_nn (F * r)) (show ab (F * r) ≤ 3 * 11 * Vm by grind)
    have e : 8 * d * F * r = 8 * d * (F * r) := by grind
    rw [e, ab_mul, ab_mul, e8]
    grind
theorem Pc9.sz {F q : Rat} (k : Fk9 F) (p : Pc9 F q) : SzQ 9 q := by
  obtain ⟨c, c1, c0, cb, cz, cr⟩ := p
  have e8 : ab 8 = 8 := ab_pos (by decide)
  have p1 : 8 * (2 * Vm) * (294912 * OM) < ((PW 9 : Int) : Rat) := by decide +kernel
  have p2 : 8 * (2 * Vm) * (3 * Vm) < ((PW 9 : Int) : Rat) := by decide +kernel
  refine sz_of (d := 8 * c * F) ((isZ.mul ⟨8, rfl⟩ c1).mul k.z) (fun h => ?_) cz ?_ ?_
  · rcases Rat.mul_eq_zero.mp h with h | h
    · exact (Rat.mul_eq_zero.mp h).elim (by decide) c0
    · exact k.n h
  · have m := mul3 (a := 8) (x := 8) (by decide) Rat.le_refl (ab_nn c) cb (ab_nn F) k.b
    rw [ab_mul, ab_mul, e8]
    grind
  · have m := mul3 (a := 8) (x := 8) (by decide) Rat.le_refl (ab_nn c) cb (ab_nn (F * q)) cr
    have e : 8 * c * F * q = 8 * c * (F * q) := by grind
    rw [e, ab_mul, ab_mul, e8]
    grind
theorem SzQ.quo {m n : Nat} {a b : Rat} (ha : SzQ m a) (hb : SzQ n b) (h : b.num ≠ 0) : SzQ (m + n) (a / b) := by
  have a0 := a.den_pos
  have b0 := b.den_pos
  have s1 := PW_mul ha.1 hb.2
  have s2 := PW_mul ha.2 hb.1
  have key : ∀ p q : Int, 0 < q → Rat.divInt p q = a / b → p.natAbs = (a.num * b.den).natAbs → q.natAbs = ((a.den : Int) * b.num).natAbs → SzQ (m + n) (a / b) := fun p q q0 e e1 e2 => by
    have s := divInt_sz (p := p) q0
    rw [e] at s
    exact ⟨by omega, by omega⟩
  rcases Int.lt_or_gt_of_ne h with w | w
  · have w2 : (a.den : Int) * b.num < 0 := Int.mul_neg_of_pos_of_neg (by omega) w
    exact key (-(a.num * b.den)) (-((a.den : Int) * b.num)) (by omega) (by rw [Rat.neg_divInt_neg, rat_div]) (Int.natAbs_neg _) (Int.natAbs_neg _)
  · exact key _ _ (Int.mul_pos (by omega) w) (rat_div a b) rfl rfl
theorem div8 (l : Int) : 8 * Rat.divInt l 8 = (l : Rat) := by
  have a := fr_int (f := 8) (p := l) (q := 8) (by decide) (by omega)
  rw [show 8 * l / 8 = l by omega] at a
  exact a
theorem pc_same {F a b : Rat} {l : Int} (va : Vf F Vm a) (vb : Vf F Vm b) (hl : 1 ≤ l ∧ l ≤ 12) : Pc9 F (Rat.divInt l 8 * (b + a)) := by
  have v := Vm_one
  have e8 := div8 l
  have l1 : ab (l : Rat) ≤ 12 := by
    rw [ab_int]
    exact Rat.intCast_le_intCast.mpr (show ((l.natAbs : Int)) ≤ 12 by omega)
  have s := va.1.add vb.1
  have t := ab_add (F * a) (F * b)
  have va2 := va.2
  have vb2 := vb.2
  refine ⟨1, isZ_one, by decide, ?_, ?_, ?_⟩
  · rw [ab_pos (by decide)]
    grind
  · have e : 8 * 1 * F * (Rat.divInt l 8 * (b + a)) = (l : Rat) * (F * a + F * b) := by
      rw [← e8]
      grind
    rw [e]
    exact (isZ_int l).mul s
  · have m := mul_le_mul2 (ab_nn (l : Rat)) l1 (ab_nn (F * a + F * b)) (show ab (F * a + F * b) ≤ 2 * Vm by grind)
    have e : 8 * ab (F * (Rat.divInt l 8 * (b + a))) = ab (l : Rat) * ab (F * a + F * b) := by
      rw [← ab_mul, ← e8, ← ab_pos (show (0 : Rat) ≤ 8 by decide), ← ab_mul, ab_pos (show (0 : Rat) ≤ 8 by decide)]
      congr 1
      grind
    grind
theorem ab_parts (r : Rat) : (ab r).num.natAbs = r.num.natAbs ∧ (ab r).den = r.den := by
  unfold ab
  split
  · exact ⟨Int.natAbs_neg r.num, rfl⟩
  · exact ⟨rfl, rfl⟩
theorem num_pos {r : Rat} (h : 0 < r) : r.num.sign = 1 := by
  have a : 0 ≤ r.num := Rat.num_nonneg.mpr (Rat.le_of_lt h)
  have b : r.num ≠ 0 := fun q => by
    rw [Rat.num_eq_zero.mp q] at h
    exact Rat.lt_irrefl h
  exact Int.sign_eq_one_of_pos (by omega)
theorem num_neg {r : Rat} (h : r < 0) : r.num.sign = -1 := by
  have a := num_pos (r := -r) (by grind)
  rw [rneg_sign] at a
  omega
theorem sg_lt {r : Rat} (h : r.num.sign = -1) : r < 0 := by
  rcases Rat.le_total (a := r) (b := 0) with q | q
  · rcases Rat.le_iff_lt_or_eq.mp q with w | w
    · exact w
    · rw [w] at h
      exact absurd h (by decide)
  · rcases Rat.le_iff_lt_or_eq.mp q with w | w
    · have := num_pos w
      omega
    · rw [← w] at h
      exact absurd h (by decide)
theorem sg_gt {r : Rat} (h : r.num.sign = 1) : 0 < r := by
  have a := sg_lt (r := -r) (by rw [rneg_sign, h])
  grind
theorem ab_sgn {r : Rat} (h : r ≠ 0) : (ab r).num.sign = 1 := by
  refine num_pos ?_
  have := ab_nn r
  rcases Rat.le_iff_lt_or_eq.mp this with w | w
  · exact w
  · exfalso
    have : ab r = 0 := w.symm
    unfold ab at this
    split at this <;> grind
/-- a piece that comes through 0: x is what lies above it -/
theorem pc_tri {F a b x : Rat} {l : Int} (k : Fk9 F) (va : Vf F Vm a) (vb : Vf F Vm b) (hl : 1 ≤ l ∧ l ≤ 12) (h : (0 < a ∧ b < 0 ∧ x = a) ∨ (0 < b ∧ a < 0 ∧ x = b)) : Pc9 F (Rat.divInt l 8 / ab (-b + a) * x * x) ∧ -b + a ≠ 0 := by
  have v := Vm_one
  have e8 := div8 l
  have l0 : (0 : Rat) < l := Rat.intCast_pos.mpr (by omega)
  have l1 : (l : Rat) ≤ 12 := Rat.intCast_le_intCast.mpr (show l ≤ 12 by omega)
  have va2 := va.2
  have vb2 := vb.2
  have g0 : 0 < ab (-b + a) ∧ (ab (-b + a) = a - b ∨ ab (-b + a) = b - a) := by
    unfold ab
    split <;> grind
  have hx : 0 < x ∧ x ≤ ab (-b + a) := by
    unfold ab
    split <;> grind
  have xz : isZ (F * x) ∧ ab (F * x) ≤ Vm := by
    rcases h with ⟨_, _, e⟩ | ⟨_, _, e⟩ <;> rw [e]
    · exact va
    · exact vb
  have nz : -b + a ≠ 0 := fun q => by
    rw [q] at g0
    have : ab 0 = 0 := ab_pos Rat.le_refl
    rw [this] at g0
    exact Rat.lt_irrefl g0.1
  generalize hg : ab (-b + a) = g at g0 hx
  have gn : g ≠ 0 := fun q => by
    rw [q] at g0
    exact Rat.lt_irrefl g0.1
  have t1 := ab_add (F * a) (-(F * b))
  have t2 := ab_add (F * b) (-(F * a))
  rw [ab_neg] at t1 t2
  have cz : isZ (F * g) ∧ ab (F * g) ≤ 2 * Vm := by
    rcases g0.2 with e | e
    · have e2 : F * g = F * a + -(F * b) := by
        rw [e]
        grind
      rw [e2]
      exact ⟨va.1.add vb.1.neg, by grind⟩
    · have e2 : F * g = F * b + -(F * a) := by
        rw [e]
        grind
      rw [e2]
      exact ⟨vb.1.add va.1.neg, by grind⟩
  refine ⟨⟨F * g, cz.1, fun q => (Rat.mul_eq_zero.mp q).elim k.n gn, cz.2, ?_, ?_⟩, nz⟩
  · have e : 8 * (F * g) * F * (Rat.divInt l 8 / g * x * x) = (l : Rat) * (F * x) * (F * x) := by
      have d := Rat.div_mul_cancel (a := Rat.divInt l 8) gn
      generalize Rat.divInt l 8 / g = w at d
      rw [← e8, ← d]
      grind
    rw [e]
    exact ((isZ_int l).mul xz.1).mul xz.1
  · have d := Rat.div_mul_cancel (a := Rat.divInt l 8) gn
    have w0 : 0 < Rat.divInt l 8 / g := by
      rcases Rat.le_total (a := Rat.divInt l 8 / g) (b := 0) with q | q
      · have := Rat.mul_le_mul_of_nonneg_right q (Rat.le_of_lt g0.1)
        grind
      · rcases Rat.le_iff_lt_or_eq.mp q with z | z
        · exact z
        · rw [← z] at d
          grind
    generalize Rat.divInt l 8 / g = w at d w0
    have e : ab (F * (w * x * x)) = w * x * ab (F * x) := by
      have e1 : F * (w * x * x) = w * x * (F * x) := by grind
      rw [e1, ab_mul, ab_pos (Rat.mul_nonneg (Rat.le_of_lt w0) (Rat.le_of_lt hx.1))]
    have wx : w * x ≤ 2 := by
      have m := Rat.mul_le_mul_of_nonneg_left hx.2 (Rat.le_of_lt w0)
      grind
    have m := mul_le_mul2 (Rat.mul_nonneg (Rat.le_of_lt w0) (Rat.le_of_lt hx.1)) wx (ab_nn (F * x)) xz.2
    rw [e]
    grind
theorem Vf.tm {F B r : Rat} (t : Int) (v : Vf F B r) : Vf F B (tmQ t r) := by
  unfold Vf
  rw [tm_mul, tm_ab]
  exact ⟨tm_Z v.1, v.2⟩
theorem Vf.fk {F r : Rat} (k : Fk9 F) (v : Vf F Vm r) : SzQ 5 r := by
  have p : 294912 * OM < ((PW 5 : Int) : Rat) := by decide +kernel
  have p2 : Vm < ((PW 5 : Int) : Rat) := by decide +kernel
  have v2 := v.2
  have kb := k.b
  exact sz_of k.z k.n v.1 (by grind) (by grind)
theorem Fm.fk {T : Int → Int → Rat} {n E : Int} {D : Rat} (f : Fm T n D) (hE : 1 ≤ E ∧ E ≤ 12) : Fk9 (fF E D) := ⟨(fF_ok f hE).1, (fF_ok f hE).2.1, (fF_ok f hE).2.2⟩
theorem sz_tri {F a b : Rat} (k : Fk9 F) (va : Vf F Vm a) (vb : Vf F Vm b) : SzQ 5 (ab (-b + a)) := by
  have p5 : 2 * Vm < ((PW 5 : Int) : Rat) := by decide +kernel
  have p6 : 294912 * OM < ((PW 5 : Int) : Rat) := by decide +kernel
  have kb := k.b
  have va2 := va.2
  have vb2 := vb.2
  have t := ab_add (F * a) (-(F * b))
  rw [ab_neg] at t
  have e : F * (-b + a) = F * a + -(F * b) := by grind
  have z : SzQ 5 (-b + a) := sz_of k.z k.n (by rw [e]; exact va.1.add vb.1.neg) (by grind) (by rw [e]; grind)
  have p := ab_parts (-b + a)
  unfold SzQ
  rw [p.1, p.2]
  exact z
theorem sz_trq {l : Int} {g : Rat} (hl : 1 ≤ l ∧ l ≤ 12) (z : SzQ 5 g) (n : g.num ≠ 0) : SzQ 6 (Rat.divInt l 8 / g) := (SzQ.quo (divInt_sz1 (p := l) (q := 8) ⟨by omega, by omega⟩ ⟨by decide, by decide⟩) z n).up (Nat.le_refl 6)
