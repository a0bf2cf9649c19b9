/-! what a beam has for a column, in a firm table -/
def hsF (T : Int → Int → Rat) (tl : Int → Int) (k w x t l e col : Int) (u : Nat) : Rat := tmQ t (coQ w x l e u * T (tl (4 * k + u)) col)
def hsO (k w x t l e col : Int) : Rat := if col ≠ 27 ∧ 0 < col - 12 - 5 * k ∧ col - 12 - 5 * k < 4 then tmQ t (owQ w x l e (col - 12 - 5 * k)) else 0
theorem hs_s {T : Int → Int → Rat} {tl : Int → Int} {k w x t l e col u : Int} {S : Rat} (h : 0 ≤ u) : S + sumN u.toNat (hsF T tl k w x t l e col) + tmQ t (coQ w x l e u * T (tl (4 * k + u)) col) = S + sumN (u + 1).toNat (hsF T tl k w x t l e col) := by
  have e1 : (u + 1).toNat = u.toNat + 1 := by omega
  have e2 : ((u.toNat : Nat) : Int) = u := by omega
  have e3 : hsF T tl k w x t l e col u.toNat = tmQ t (coQ w x l e u * T (tl (4 * k + u)) col) := by
    unfold hsF
    rw [e2]
  rw [e1, ← e3, Rat.add_assoc]
  rfl
theorem isZ_int (z : Int) : isZ (z : Rat) := ⟨z, rfl⟩
theorem isZ.neg {x : Rat} (a : isZ x) : isZ (-x) := by
  obtain ⟨z, e⟩ := a
  exact ⟨-z, by rw [e, Rat.intCast_neg]⟩
theorem ab_neg (x : Rat) : ab (-x) = ab x := by
  unfold ab
  split <;> split <;> grind
theorem tm_mul (t : Int) (F r : Rat) : F * tmQ t r = tmQ t (F * r) := by
  unfold tmQ
  split
  · rfl
  · grind
theorem tm_Z {t : Int} {r : Rat} (a : isZ r) : isZ (tmQ t r) := by
  unfold tmQ
  split
  · exact a
  · exact a.neg
theorem tm_ab (t : Int) (r : Rat) : ab (tmQ t r) = ab r := by
  unfold tmQ
  split
  · rfl
  · exact ab_neg r
/-- 384 times a stiffness makes all of a beam's shares whole -/
def coC (w x l e u : Int) : Bool := decide ((384 * e * cfU w x u l) % cfD w u e = 0 ∧ ((384 * e * cfU w x u l / cfD w u e).natAbs : Int) ≤ 110592)
def owC (w x l e d : Int) : Bool := decide ((384 * e * owU w x d l) % owD w e = 0 ∧ ((384 * e * owU w x d l / owD w e).natAbs : Int) ≤ 110592)
theorem ck_co {w x l e u : Int} (hw : 0 ≤ w ∧ w ≤ 3) (hx : 0 ≤ x ∧ x ≤ 4) (hl : 1 ≤ l ∧ l ≤ 12) (he : 1 ≤ e ∧ e ≤ 12) (hu : 0 ≤ u ∧ u ≤ 3) : coC w x l e u = true := by
  have a : allN 4 (fun w => allN 5 fun x => allN 4 fun u => allN 1 fun k => allN 12 fun l => allN 12 fun e => coC w x ((l : Int) + 1) ((e : Int) + 1) u) = true := by decide +kernel
  have b := ck_all (n := 1) (g := fun _ l e => coC w x l e u) (by
    have b := allN_at (allN_at (allN_at a w.toNat (by omega)) x.toNat (by omega)) u.toNat (by omega)
    rw [show ((w.toNat : Nat) : Int) = w by omega, show ((x.toNat : Nat) : Int) = x by omega, show ((u.toNat : Nat) : Int) = u by omega] at b
    exact b) (k := 0) ⟨by omega, by omega⟩ hl he
  exact b
theorem ck_ow {w x l e d : Int} (hw : 0 ≤ w ∧ w ≤ 3) (hx : 0 ≤ x ∧ x ≤ 4) (hl : 1 ≤ l ∧ l ≤ 12) (he : 1 ≤ e ∧ e ≤ 12) (hd : 0 ≤ d ∧ d ≤ 4) : owC w x l e d = true := by
  have a : allN 4 (fun w => allN 5 fun x => allN 5 fun u => allN 1 fun k => allN 12 fun l => allN 12 fun e => owC w x ((l : Int) + 1) ((e : Int) + 1) u) = true := by decide +kernel
  have b := ck_all (n := 1) (g := fun _ l e => owC w x l e d) (by
    have b := allN_at (allN_at (allN_at a w.toNat (by omega)) x.toNat (by omega)) d.toNat (by omega)
    rw [show ((w.toNat : Nat) : Int) = w by omega, show ((x.toNat : Nat) : Int) = x by omega, show ((d.toNat : Nat) : Int) = d by omega] at b
    exact b) (k := 0) ⟨by omega, by omega⟩ hl he
  exact b
theorem fr_fact {F U D B : Int} (hD : 0 < D) (h : (F * U) % D = 0) (b : ((F * U / D).natAbs : Int) ≤ B) : isZ ((F : Rat) * Rat.divInt U D) ∧ ab ((F : Rat) * Rat.divInt U D) ≤ (B : Rat) := by
  rw [fr_int hD h, ab_int]
  exact ⟨isZ_int _, Rat.intCast_le_intCast.mpr b⟩
/-- the factor that makes a beam's shares whole: its own stiffness, any one for shears -/
theorem co_fact {w x l e u E : Int} (hw : 0 ≤ w ∧ w ≤ 3) (hx : 0 ≤ x ∧ x ≤ 4) (hl : 1 ≤ l ∧ l ≤ 12) (he : 1 ≤ e ∧ e ≤ 12) (hu : 0 ≤ u ∧ u ≤ 3) (hE : E = e ∨ (w = 3 ∧ E = 1)) : isZ (((384 * E : Int) : Rat) * coQ w x l e u) ∧ ab (((384 * E : Int) : Rat) * coQ w x l e u) ≤ ((if w = 3 then 4608 else 110592 : Int) : Rat) := by
  have q : E = e ∧ w ≠ 3 ∨ w = 3 ∧ 1 ≤ E ∧ E ≤ 12 := by omega
  unfold coQ
  rcases q with ⟨h, h2⟩ | ⟨h, h2⟩
  · rw [h, if_neg h2]
    have c := of_decide_eq_true (ck_co hw hx hl he hu)
    exact fr_fact (cfD_b he).1 c.1 c.2
  · have d : cfD w u e = 1 := if_neg (by omega)
    rw [if_pos h, d]
    have v : cfU w x u l = 1 ∨ cfU w x u l = 0 := by
      unfold cfU
      by_cases q : w = u
      · exact Or.inl (if_pos q)
      · rw [if_neg q, if_neg (by omega)]
        exact Or.inr rfl
    refine fr_fact (by decide) (Int.emod_one _) ?_
    rw [Int.ediv_one]
    rcases v with q | q <;> rw [q] <;> omega
theorem ow_fact {w x l e d E : Int} (hw : 0 ≤ w ∧ w ≤ 3) (hx : 0 ≤ x ∧ x ≤ 4) (hl : 1 ≤ l ∧ l ≤ 12) (he : 1 ≤ e ∧ e ≤ 12) (hd : 0 ≤ d ∧ d ≤ 4) (hE : E = e ∨ (w = 3 ∧ E = 1)) : isZ (((384 * E : Int) : Rat) * owQ w x l e d) ∧ ab (((384 * E : Int) : Rat) * owQ w x l e d) ≤ ((if w = 3 then 4608 else 110592 : Int) : Rat) := by
  have q : E = e ∧ w ≠ 3 ∨ w = 3 ∧ 1 ≤ E ∧ E ≤ 12 := by omega
  unfold owQ
  rcases q with ⟨h, h2⟩ | ⟨h, h2⟩
  · rw [h, if_neg h2]
    have c := of_decide_eq_true (ck_ow hw hx hl he hd)
    exact fr_fact (owD_b he).1 c.1 c.2
  · have dd : owD w e = 1 := if_pos h
    rw [if_pos h, dd]
    have v : owU w x d l = -1 ∨ owU w x d l = 0 := by
      unfold owU
      rw [if_pos h]
      split
      · exact Or.inl rfl
      · exact Or.inr rfl
    refine fr_fact (by decide) (Int.emod_one _) ?_
    rw [Int.ediv_one]
    rcases v with q | q <;> rw [q] <;> omega
/-- a firm table: one lower part for all that is not set down -/
def Fm (T : Int → Int → Rat) (E : Int) (D : Rat) : Prop := isZ D ∧ D ≠ 0 ∧ ab D ≤ OM ∧ ∀ a x : Int, 0 ≤ a → a < E → 0 ≤ x → x < 27 → isZ (64 * (D * T a x)) ∧ ab (D * T a x) ≤ OM
theorem Gs.firm {e : Int} {T : Int → Int → Rat} {c : Nat} (g : Gs e.toNat T e.toNat c) (hc : c ≤ 12) (hE : e ≤ 12) : ∃ D : Rat, Fm T e D := by
  obtain ⟨B, p, f, w, g1, g2, g3⟩ := g
  obtain ⟨D, D1, D2, D3, D4, _⟩ := g1.com hc (by omega) g2
  refine ⟨D, D1, D2, Rat.le_trans D3 g3, fun a x a0 a1 x0 x1 => ?_⟩
  have d := D4 a.toNat x.toNat (by omega) (by omega)
  have e1 : nm T a.toNat x.toNat = T a x := by
    show T (a.toNat : Int) (x.toNat : Int) = T a x
    rw [show (a.toNat : Int) = a by omega, show (x.toNat : Int) = x by omega]
  have e2 : prN 12 (fun _ => gx x.toNat) = 1 := by
    have e3 : gx x.toNat = 1 := if_pos (by omega)
    rw [e3]
    decide +kernel
  rw [e1, e2, Rat.one_mul] at d
  exact ⟨d.1, Rat.le_trans d.2 g3⟩
/-- the factor of a row of influence, and how large all sums for it are -/
def fF (E : Int) (D : Rat) : Rat := 64 * (((384 * E : Int) : Rat) * D)
def fU (w : Int) : Rat := ((if w = 3 then 4608 else 110592 : Int) : Rat) * (64 * OM)
theorem OM_pos : 0 < OM := by decide +kernel
theorem fF_ok {T : Int → Int → Rat} {n E : Int} {D : Rat} (f : Fm T n D) (hE : 1 ≤ E ∧ E ≤ 12) : isZ (fF E D) ∧ fF E D ≠ 0 ∧ ab (fF E D) ≤ 294912 * OM := by
  have o := OM_pos
  refine ⟨isZ.mul ⟨64, rfl⟩ ((isZ_int _).mul f.1), fun h => ?_, ?_⟩
  · rcases Rat.mul_eq_zero.mp h with h | h
    · exact absurd h (by decide)
    · rcases Rat.mul_eq_zero.mp h with h | h
      · have := Rat.intCast_eq_zero_iff.mp h
        omega
      · exact f.2.1 h
  · unfold fF
    rw [ab_mul, ab_mul, ab_pos (show (0 : Rat) ≤ 64 by decide), ab_int]
    have m : (((384 * E : Int).natAbs : Int) : Rat) ≤ ((4608 : Int) : Rat) := Rat.intCast_le_intCast.mpr (by omega)
    have m0 : (0 : Rat) ≤ (((384 * E : Int).natAbs : Int) : Rat) := Rat.intCast_nonneg.mpr (by omega)
    have q := mul_le_mul2 m0 m (ab_nn D) f.2.2.1
    have e : ((4608 : Int) : Rat) = 4608 := rfl
    rw [e] at q
    grind
theorem hs_one {T : Int → Int → Rat} {tl : Int → Int} {k w x t l e col E n : Int} {D : Rat} {u : Nat} (f : Fm T n D) (hw : 0 ≤ w ∧ w ≤ 3) (hx : 0 ≤ x ∧ x ≤ 4) (hl : 1 ≤ l ∧ l ≤ 12) (he : 1 ≤ e ∧ e ≤ 12) (hE : E = e ∨ (w = 3 ∧ E = 1)) (hu : u < 4) (hc : 0 ≤ col ∧ col < 27) (ht : 0 ≤ tl (4 * k + u) ∧ tl (4 * k + u) < n) : isZ (fF E D * hsF T tl k w x t l e col u) ∧ ab (fF E D * hsF T tl k w x t l e col u) ≤ fU w := by
  have a := co_fact hw hx hl he (u := (u : Int)) ⟨by omega, by omega⟩ hE
  have b := f.2.2.2 _ col ht.1 ht.2 hc.1 hc.2
  unfold hsF fF fU
  rw [tm_mul, tm_ab]
  have e1 : 64 * (((384 * E : Int) : Rat) * D) * (coQ w x l e u * T (tl (4 * k + u)) col) = ((384 * E : Int) : Rat) * coQ w x l e u * (64 * (D * T (tl (4 * k + u)) col)) := by grind
  rw [e1, ab_mul]
  refine ⟨tm_Z (a.1.mul b.1), mul_le_mul2 (ab_nn _) a.2 (ab_nn _) ?_⟩
  rw [ab_mul, ab_pos (show (0 : Rat) ≤ 64 by decide)]
  exact Rat.mul_le_mul_of_nonneg_left b.2 (by decide)
theorem hs_own {T : Int → Int → Rat} {k w x t l e col E n : Int} {D : Rat} (f : Fm T n D) (hw : 0 ≤ w ∧ w ≤ 3) (hx : 0 ≤ x ∧ x ≤ 4) (hl : 1 ≤ l ∧ l ≤ 12) (he : 1 ≤ e ∧ e ≤ 12) (hE : E = e ∨ (w = 3 ∧ E = 1)) : isZ (fF E D * hsO k w x t l e col) ∧ ab (fF E D * hsO k w x t l e col) ≤ fU w := by
  have o := OM_pos
  unfold hsO
  split
  · next h =>
    have a := ow_fact hw hx hl he (d := col - 12 - 5 * k) ⟨by omega, by omega⟩ hE
    unfold fF fU
    rw [tm_mul, tm_ab]
    have e1 : 64 * (((384 * E : Int) : Rat) * D) * owQ w x l e (col - 12 - 5 * k) = ((384 * E : Int) : Rat) * owQ w x l e (col - 12 - 5 * k) * (64 * D) := by grind
    rw [e1, ab_mul]
    refine ⟨tm_Z (a.1.mul (isZ.mul ⟨64, rfl⟩ f.1)), mul_le_mul2 (ab_nn _) a.2 (ab_nn _) ?_⟩
    rw [ab_mul, ab_pos (show (0 : Rat) ≤ 64 by decide)]
    exact Rat.mul_le_mul_of_nonneg_left f.2.2.1 (by decide)
  · rw [Rat.mul_zero, ab_pos Rat.le_refl]
    refine ⟨⟨0, rfl⟩, ?_⟩
    unfold fU
    refine Rat.mul_nonneg (Rat.intCast_nonneg.mpr ?_) (by grind)
    split <;> decide
/-- sums stay whole, and small -/
def Vf (F : Rat) (B r : Rat) : Prop := isZ (F * r) ∧ ab (F * r) ≤ B
theorem Vf.add {F B C r q : Rat} (a : Vf F B r) (b : isZ (F * q) ∧ ab (F * q) ≤ C) : Vf F (B + C) (r + q) := by
  have e : F * (r + q) = F * r + F * q := by grind
  have t := ab_add (F * r) (F * q)
  have a2 := a.2
  unfold Vf
  rw [e]
  exact ⟨a.1.add b.1, by grind⟩
theorem Vf.up {F B C r : Rat} (a : Vf F B r) (h : B ≤ C) : Vf F C r := ⟨a.1, Rat.le_trans a.2 h⟩
theorem Vf.zero {F : Rat} : Vf F 0 0 := by
  unfold Vf
  rw [Rat.mul_zero, ab_pos Rat.le_refl]
  exact ⟨⟨0, rfl⟩, Rat.le_refl⟩
def Vm : Rat := 552960 * (64 * OM)
theorem Vf.sz {T : Int → Int → Rat} {n E : Int} {D r : Rat} (f : Fm T n D) (hE : 1 ≤ E ∧ E ≤ 12) (v : Vf (fF E D) Vm r) : SzQ 5 r := by
  have a := fF_ok f hE
  have p : 294912 * OM < ((PW 5 : Int) : Rat) := by decide +kernel
  have p2 : Vm < ((PW 5 : Int) : Rat) := by decide +kernel
  have v2 := v.2
  exact sz_of a.1 a.2.1 v.1 (by grind) (by grind)
theorem Fm.sz {T : Int → Int → Rat} {n a x : Int} {D : Rat} (f : Fm T n D) (a0 : 0 ≤ a) (a1 : a < n) (x0 : 0 ≤ x) (x1 : x < 27) : SzQ 4 (T a x) := by
  have b := f.2.2.2 a x a0 a1 x0 x1
  have o := OM_pos
  have p : 64 * OM < ((PW 4 : Int) : Rat) := by decide +kernel
  have f3 := f.2.2.1
  have e : 64 * (D * T a x) = 64 * D * T a x := by grind
  have b1 := b.1
  rw [e] at b1
  refine sz_of (d := 64 * D) (isZ.mul ⟨64, rfl⟩ f.1) (fun h => (Rat.mul_eq_zero.mp h).elim (by decide) f.2.1) b1 ?_ ?_
  · rw [ab_mul, ab_pos (show (0 : Rat) ≤ 64 by decide)]
    grind
  · rw [← e, ab_mul, ab_pos (show (0 : Rat) ≤ 64 by decide)]
    grind
theorem hs_n {T : Int → Int → Rat} {tl : Int → Int} {k w x t l e col E n : Int} {D S B : Rat} (f : Fm T n D) (hw : 0 ≤ w ∧ w ≤ 3) (hx : 0 ≤ x ∧ x ≤ 4) (hl : 1 ≤ l ∧ l ≤ 12) (he : 1 ≤ e ∧ e ≤ 12) (hE : E = e ∨ (w = 3 ∧ E = 1)) (hc : 0 ≤ col ∧ col < 27) (ht : ∀ u : Nat, u < 4 → 0 ≤ tl (4 * k + u) ∧ tl (4 * k + u) < n) (v : Vf (fF E D) B S) : ∀ m : Nat, m ≤ 4 → Vf (fF E D) (B + sumN m fun _ => fU w) (S + sumN m (hsF T tl k w x t l e col))
  | 0, _ => by
    show Vf (fF E D) (B + 0) (S + 0)
    rw [Rat.add_zero, Rat.add_zero]
    exact v
  | m + 1, h => by
    have a := (hs_n (t := t) f hw hx hl he hE hc ht v m (by omega)).add (hs_one (t := t) f hw hx hl he hE (u := m) (by omega) hc (ht m (by omega)))
    rw [Rat.add_assoc, Rat.add_assoc] at a
    exact a
theorem fU_nn (w : Int) : 0 ≤ fU w := by
  have o := OM_pos
  unfold fU
  refine Rat.mul_nonneg (Rat.intCast_nonneg.mpr ?_) (by grind)
  split <;> decide
theorem fU_Vm (w : Int) : 5 * fU w ≤ Vm := by
  have o := OM_pos
  unfold fU Vm
  split
  · have e : ((4608 : Int) : Rat) = 4608 := rfl
    rw [e]
    grind
  · have e : ((110592 : Int) : Rat) = 110592 := rfl
    rw [e]
    grind
theorem fU_3 : fU 3 = 4608 * (64 * OM) := by
  unfold fU
  rw [if_pos rfl]
  rfl
theorem fU_V3 : 11 * fU 3 ≤ Vm := by
  have o := OM_pos
  rw [fU_3]
  unfold Vm
  grind
theorem hs_all {T : Int → Int → Rat} {tl : Int → Int} {k w x t l e col E n : Int} {D S B : Rat} (f : Fm T n D) (hw : 0 ≤ w ∧ w ≤ 3) (hx : 0 ≤ x ∧ x ≤ 4) (hl : 1 ≤ l ∧ l ≤ 12) (he : 1 ≤ e ∧ e ≤ 12) (hE : E = e ∨ (w = 3 ∧ E = 1)) (hE0 : 1 ≤ E ∧ E ≤ 12) (hc : 0 ≤ col ∧ col < 27) (ht : ∀ u : Int, 0 ≤ u → u < 4 → 0 ≤ tl (4 * k + u) ∧ tl (4 * k + u) < n) (v : Vf (fF E D) B S) (hB : B + 5 * fU w ≤ Vm) : (∀ m : Nat, m ≤ 4 → SzQ 5 (S + sumN m (hsF T tl k w x t l e col))) ∧ Vf (fF E D) (B + 5 * fU w) (S + sumN 4 (hsF T tl k w x t l e col) + hsO k w x t l e col) := by
  have hn := hs_n (t := t) f hw hx hl he hE hc (fun u hu => ht u (by omega) (by omega)) v
  have ho := hs_own (k := k) (t := t) (col := col) f hw hx hl he hE
  have u0 := fU_nn w
  have s5 : (sumN 4 fun _ => fU w) = fU w + fU w + fU w + fU w := by
    show 0 + fU w + fU w + fU w + fU w = _
    rw [Rat.zero_add]
  refine ⟨fun m h => ((hn m h).up ?_).sz f hE0, ((hn 4 (Nat.le_refl 4)).add ho).up ?_⟩
  · have s4 := sumN_up (g := fun _ => fU w) (k := m) (fun _ => u0) 4 h
    grind
  · grind
theorem one_div : Rat.divInt 1 1 = 1 := by decide +kernel
theorem Vf.one {T : Int → Int → Rat} {n : Int} {D B r : Rat} (f : Fm T n D) (v : Vf (fF 1 D) B r) : Vf (fF 1 D) (B + fU 3) (r + Rat.divInt 1 1) := by
  have a := fF_ok f (E := 1) (by decide)
  have o := OM_pos
  refine v.add ?_
  rw [one_div, Rat.mul_one]
  refine ⟨a.1, Rat.le_trans a.2.2 ?_⟩
  rw [fU_3]
  grind
theorem val_b0 (w : Int) : 0 + 5 * fU w ≤ Vm := by
  have := fU_Vm w
  grind
theorem val_b1 {B : Rat} (h : B ≤ 10 * fU 3) : B ≤ Vm := by
  have := fU_V3
  have := fU_nn 3
  grind
theorem val_b2 {B : Rat} (h : B ≤ 10 * fU 3) : B + fU 3 ≤ Vm := by
  have := fU_V3
  have := fU_nn 3
  grind
theorem val_b3 {B : Rat} (h : B ≤ 5 * fU 3) : B + 5 * fU 3 ≤ 10 * fU 3 ∧ B + 5 * fU 3 ≤ Vm ∧ B ≤ 10 * fU 3 := by
  have := fU_V3
  have := fU_nn 3
  exact ⟨by grind, by grind, by grind⟩
theorem val_b4 : (0 : Rat) ≤ 5 * fU 3 ∧ 0 + 5 * fU 3 ≤ 5 * fU 3 := by
  have := fU_nn 3
  exact ⟨by grind, by grind⟩
/-- what is told of a row for a load -/
def hvQ (T : Int → Int → Rat) (tl L S : Int → Int) (k w x t col : Int) (s : Rat) : Rat := s + sumN 4 (hsF T tl k w x t (L k) (S k) col) + hsO k w x t (L k) (S k) col
def v3a (T : Int → Int → Rat) (tl L S : Int → Int) (M mb col : Int) : Rat := if mb < M then hvQ T tl L S mb 3 0 1 col 0 else 0
def v3b (T : Int → Int → Rat) (tl L S : Int → Int) (M mb col : Int) : Rat := if 0 < mb then hvQ T tl L S (mb - 1) 3 4 (-1) col (v3a T tl L S M mb col) else v3a T tl L S M mb col
def valQ (T : Int → Int → Rat) (tl L S : Int → Int) (M rw mb pl k p : Int) : Rat := if rw < 3 then hvQ T tl L S mb (if rw = 0 then 2 else if rw = 1 then 3 else 0) pl 1 (12 + 5 * k + p) 0 else if (k = mb ∧ p = 0) ∨ (k = mb - 1 ∧ p = 4) then v3b T tl L S M mb (12 + 5 * k + p) + Rat.divInt 1 1 else v3b T tl L S M mb (12 + 5 * k + p)
