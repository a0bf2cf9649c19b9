/-! the equations: what a row is made of, by whole numbers -/
def plP (P : Int → Int) (k w t l : Int) : Int → Int := fun j => if 4 * k ≤ j ∧ j < 4 * k + 4 then t * cfU w 4 (j - 4 * k) l else if 13 + 5 * k ≤ j ∧ j < 16 + 5 * k then -(t * owU w 4 (j - 12 - 5 * k) l) else P j
def plQ (Q : Int → Int) (k w e : Int) : Int → Int := fun j => if 4 * k ≤ j ∧ j < 4 * k + 4 then cfD w (j - 4 * k) e else if 13 + 5 * k ≤ j ∧ j < 16 + 5 * k then owD w e else Q j
def atF (P : Int → Int) (b v : Int) : Int → Int := fun j => if j = b then v else P j
def zP : Int → Int := fun _ => 0
def oQ : Int → Int := fun _ => 1
theorem oQ_b (j : Int) : 0 < oQ j ∧ oQ j < 16777216 := (by decide : (0 : Int) < 1 ∧ (1 : Int) < 16777216)
theorem zP_b (j : Int) : -16777216 < zP j ∧ zP j < 16777216 := (by decide : (-16777216 : Int) < 0 ∧ (0 : Int) < 16777216)
def Cu (R : Int → Rat) (P Q : Int → Int) : Prop := ∀ j : Int, 0 ≤ j → j < 28 → (0 < Q j ∧ Q j < 16777216) ∧ (-16777216 < P j ∧ P j < 16777216) ∧ R j = Rat.divInt (P j) (Q j)
theorem Cu.sz {R : Int → Rat} {P Q : Int → Int} (c : Cu R P Q) : ∀ j : Int, 0 ≤ j → j < 28 → SzQ 1 (R j) := fun j j0 j1 => by
  have d := c j j0 j1
  have s := divInt_sz (p := P j) d.1.1
  have e : PW 1 = 16777216 := rfl
  rw [← d.2.2] at s
  exact ⟨by omega, by omega⟩
def Prt (A : Int → Int → Rat) (e : Int) (O : Rat) (P Q : Int → Int) : Prop := (0 ≤ e) ∧ (∃ f w : Nat → Rat, (∀ r : Nat, (r : Int) < e → RW (fun x => A r x) (f r) (w r)) ∧ prN e.toNat w ≤ O) ∧ (e < 12 → Cu (A e) P Q) ∧ (∀ r : Int, e < r → r < 12 → ∀ j : Int, 0 ≤ j → j < 28 → A r j = 0)
theorem Prt.e0 {A : Int → Int → Rat} {e : Int} {O : Rat} {P Q : Int → Int} (h : Prt A e O P Q) : 0 ≤ e := h.1
theorem Prt.rows {A : Int → Int → Rat} {e : Int} {O : Rat} {P Q : Int → Int} (h : Prt A e O P Q) : ∃ f w : Nat → Rat, (∀ r : Nat, (r : Int) < e → RW (fun x => A r x) (f r) (w r)) ∧ prN e.toNat w ≤ O := h.2.1
theorem Prt.cur {A : Int → Int → Rat} {e : Int} {O : Rat} {P Q : Int → Int} (h : Prt A e O P Q) : e < 12 → Cu (A e) P Q := h.2.2.1
theorem Prt.zero {A : Int → Int → Rat} {e : Int} {O : Rat} {P Q : Int → Int} (h : Prt A e O P Q) : ∀ r : Int, e < r → r < 12 → ∀ j : Int, 0 ≤ j → j < 28 → A r j = 0 := h.2.2.2
theorem Prt.mk {A : Int → Int → Rat} {e : Int} {O : Rat} {P Q : Int → Int} (he0 : 0 ≤ e) (hrows : ∃ f w : Nat → Rat, (∀ r : Nat, (r : Int) < e → RW (fun x => A r x) (f r) (w r)) ∧ prN e.toNat w ≤ O) (hcur : e < 12 → Cu (A e) P Q) (hzero : ∀ r : Int, e < r → r < 12 → ∀ j : Int, 0 ≤ j → j < 28 → A r j = 0) : Prt A e O P Q := ⟨he0, hrows, hcur, hzero⟩
theorem Prt.row {A A' : Int → Int → Rat} {e : Int} {O : Rat} {P Q P' Q' : Int → Int} (p : Prt A e O P Q) (o : ∀ r j, r ≠ e → A' r j = A r j) (c : e < 12 → Cu (A' e) P' Q') : Prt A' e O P' Q' := Prt.mk
  (p.e0)
  (by
    obtain ⟨f, w, h, b⟩ := p.rows
    refine ⟨f, w, fun r hr => ?_, b⟩
    have e1 : (fun x : Nat => A' (r : Int) (x : Int)) = fun x : Nat => A (r : Int) (x : Int) := funext fun x => o _ _ (by omega)
    rw [e1]
    exact h r hr)
  (c)
  (fun r h1 h2 j j0 j1 => by
    rw [o r j (by omega)]
    exact p.zero r h1 h2 j j0 j1)
theorem Prt.next {A : Int → Int → Rat} {e e' : Int} {O : Rat} {P Q : Int → Int} {f w : Rat} (p : Prt A e O P Q) (he : e < 12) (R : RW (fun x => A e x) f w) (e1 : e' = e + 1) : Prt A e' (O * w) zP oQ := Prt.mk
  (by
    have := p.e0
    omega)
  (by
    obtain ⟨f0, w0, h, b⟩ := p.rows
    have h0 := p.e0
    refine ⟨fun r => if r = e.toNat then f else f0 r, fun r => if r = e.toNat then w else w0 r, fun r hr => ?_, ?_⟩
    · show RW (fun x : Nat => A (r : Int) (x : Int)) (if r = e.toNat then f else f0 r) (if r = e.toNat then w else w0 r)
      by_cases q : r = e.toNat
      · have e2 : (r : Int) = e := by omega
        rw [if_pos q, if_pos q, e2]
        exact R
      · rw [if_neg q, if_neg q]
        exact h r (by omega)
    · have e3 : e'.toNat = e.toNat + 1 := by omega
      rw [e3]
      show prN e.toNat (fun r => if r = e.toNat then w else w0 r) * (if e.toNat = e.toNat then w else w0 e.toNat) ≤ O * w
      rw [if_pos rfl, prN_congr (g := w0) e.toNat fun r hr => if_neg (by omega)]
      have := R.w1
      exact Rat.mul_le_mul_of_nonneg_right b (by grind))
  (fun h j j0 j1 => by
    refine ⟨oQ_b j, zP_b j, ?_⟩
    rw [p.zero e' (by omega) h j j0 j1]
    exact (Rat.zero_divInt 1).symm)
  (fun r h1 h2 => p.zero r (by omega) h2)
theorem Prt.up {A : Int → Int → Rat} {e : Int} {O O' : Rat} {P Q : Int → Int} (p : Prt A e O P Q) (h : O ≤ O') : Prt A e O' P Q := Prt.mk
  (p.e0)
  (by
    obtain ⟨f0, w0, a, b⟩ := p.rows
    exact ⟨f0, w0, a, Rat.le_trans b h⟩)
  (p.cur)
  (p.zero)
theorem Prt.nn {A : Int → Int → Rat} {e : Int} {O : Rat} {P Q : Int → Int} (p : Prt A e O P Q) : 0 ≤ O := by
  obtain ⟨f0, w0, a, b⟩ := p.rows
  have h0 := p.e0
  have := prN_pos (f := w0) e.toNat fun r hr => (a r (by omega)).w1
  grind
theorem tm_div {t p q : Int} (ht : t = 1 ∨ t = -1) : tmQ t (Rat.divInt p q) = Rat.divInt (t * p) q := by
  unfold tmQ
  rcases ht with e | e
  · rw [if_pos e, e, Int.one_mul]
  · rw [if_neg (by omega), e, Rat.neg_divInt]
    congr 1
    omega
theorem tm_ndiv {t p q : Int} (ht : t = 1 ∨ t = -1) : tmQ t (-(Rat.divInt p q)) = Rat.divInt (-(t * p)) q := by
  rw [Rat.neg_divInt, tm_div ht, Int.mul_neg]
theorem pm_b {t p B : Int} (ht : t = 1 ∨ t = -1) (h : -B ≤ p ∧ p ≤ B) : -B ≤ t * p ∧ t * p ≤ B := by
  rcases ht with e | e <;> rw [e] <;> omega
theorem ptA_1 {A : Int → Int → Rat} {a k w x t l e j : Int} (hk : 0 ≤ k ∧ k < 3) (h : 4 * k ≤ j ∧ j < 4 * k + 4) : ptA A a k w x t l e a j = A a j + tmQ t (coQ w x l e (j - 4 * k)) := by
  unfold ptA
  rw [adP_o (by omega)]
  unfold adP
  rw [if_pos ⟨rfl, h.1, h.2⟩]
theorem ptA_2 {A : Int → Int → Rat} {a k w x t l e j : Int} (hk : 0 ≤ k ∧ k < 3) (h : 13 + 5 * k ≤ j ∧ j < 16 + 5 * k) : ptA A a k w x t l e a j = A a j + tmQ t (-(owQ w x l e (j - 12 - 5 * k))) := by
  unfold ptA
  have e1 : adP A a (fun j => tmQ t (coQ w x l e (j - 4 * k))) (4 * k) (4 * k + 4) a j = A a j := adP_o (by omega)
  generalize adP A a (fun j => tmQ t (coQ w x l e (j - 4 * k))) (4 * k) (4 * k + 4) = B at e1
  unfold adP
  rw [if_pos ⟨rfl, h.1, h.2⟩, e1]
theorem ptA_3 {A : Int → Int → Rat} {a k w x t l e j : Int} (h : ¬(4 * k ≤ j ∧ j < 4 * k + 4)) (h2 : ¬(13 + 5 * k ≤ j ∧ j < 16 + 5 * k)) : ptA A a k w x t l e a j = A a j := by
  unfold ptA
  rw [adP_o (by omega), adP_o (by omega)]
theorem Prt.put4 {A : Int → Int → Rat} {a k w t l e : Int} {O : Rat} {P Q : Int → Int} (p : Prt A a O P Q) (hk : 0 ≤ k ∧ k < 3) (hl : 1 ≤ l ∧ l ≤ 12) (he : 1 ≤ e ∧ e ≤ 12) (ht : t = 1 ∨ t = -1) (z : ∀ j : Int, (4 * k ≤ j ∧ j < 4 * k + 4) ∨ (13 + 5 * k ≤ j ∧ j < 16 + 5 * k) → P j = 0) : Prt (ptA A a k w 4 t l e) a O (plP P k w t l) (plQ Q k w e) :=
  p.row (fun _ _ h => ptA_o h) fun ha j j0 j1 => by
    have c := p.cur ha j j0 j1
    unfold plP plQ
    by_cases q : 4 * k ≤ j ∧ j < 4 * k + 4
    · have zj := z j (Or.inl q)
      rw [if_pos q, if_pos q, ptA_1 hk q, c.2.2, zj, Rat.zero_divInt, Rat.zero_add]
      have d := cfD_b (w := w) (u := j - 4 * k) he
      have b := pm_b ht (cfU_b (w := w) (x := 4) (u := j - 4 * k) ⟨by omega, by omega⟩ hl)
      exact ⟨⟨d.1, by omega⟩, ⟨by omega, by omega⟩, tm_div ht⟩
    · rw [if_neg q, if_neg q]
      by_cases q2 : 13 + 5 * k ≤ j ∧ j < 16 + 5 * k
      · have zj := z j (Or.inr q2)
        rw [if_pos q2, if_pos q2, ptA_2 hk q2, c.2.2, zj, Rat.zero_divInt, Rat.zero_add]
        have d := owD_b (w := w) he
        have b := pm_b ht (owU_b (w := w) (x := 4) (ld := j - 12 - 5 * k) ⟨by omega, by omega⟩ ⟨by omega, by omega⟩ hl)
        exact ⟨⟨d.1, by omega⟩, ⟨by omega, by omega⟩, tm_ndiv ht⟩
      · rw [if_neg q2, if_neg q2, ptA_3 q q2]
        exact c
theorem cf0 {w u l : Int} (hu : 0 ≤ u ∧ u ≤ 3) (hw : 0 ≤ w) : cfU w 0 u l = if u = w then 1 else 0 := by
  unfold cfU cfN
  by_cases q : w = u
  · rw [if_pos q, if_pos q.symm]
  · rw [if_neg q, if_neg (Ne.symm q)]
    simp only [Int.zero_mul, Int.mul_zero, Int.neg_zero, ite_self]
theorem ow0 {w ld l : Int} (hd : 1 ≤ ld) : owU w 0 ld l = 0 := by
  have e : odX 0 ld = 0 := if_neg (by omega)
  unfold owU
  rw [e, if_neg (show ¬ ld < 0 by omega)]
  simp only [Int.zero_mul, Int.mul_zero, Int.neg_zero, ite_self]
theorem tm_zero (t : Int) : tmQ t 0 = 0 := by
  unfold tmQ
  split <;> rfl
theorem Prt.put0 {A : Int → Int → Rat} {a k w t l e : Int} {O : Rat} {P Q : Int → Int} (p : Prt A a O P Q) (hk : 0 ≤ k ∧ k < 3) (hw : 0 ≤ w ∧ w ≤ 3) (ht : t = 1 ∨ t = -1) (z : P (4 * k + w) = 0) : Prt (ptA A a k w 0 t l e) a O (atF P (4 * k + w) t) (atF Q (4 * k + w) 1) :=
  p.row (fun _ _ h => ptA_o h) fun ha j j0 j1 => by
    have c := p.cur ha j j0 j1
    unfold atF
    by_cases q : 4 * k ≤ j ∧ j < 4 * k + 4
    · have cf := cf0 (w := w) (u := j - 4 * k) (l := l) ⟨by omega, by omega⟩ hw.1
      by_cases q3 : j = 4 * k + w
      · have e1 : cfD w (j - 4 * k) e = 1 := by
          unfold cfD
          rw [if_neg (by omega)]
        rw [if_pos q3, if_pos q3, ptA_1 hk q, c.2.2, q3, z, Rat.zero_divInt, Rat.zero_add]
        rw [q3] at cf e1
        unfold coQ
        rw [cf, e1, tm_div ht, if_pos (by omega), Int.mul_one]
        exact ⟨⟨by decide, by decide⟩, by omega, rfl⟩
      · rw [if_neg q3, if_neg q3, ptA_1 hk q]
        unfold coQ
        rw [cf, if_neg (by omega), Rat.zero_divInt, tm_zero, Rat.add_zero]
        exact c
    · rw [if_neg (by omega), if_neg (by omega)]
      by_cases q2 : 13 + 5 * k ≤ j ∧ j < 16 + 5 * k
      · rw [ptA_2 hk q2]
        unfold owQ
        rw [ow0 (by omega), Rat.zero_divInt, Rat.neg_zero, tm_zero, Rat.add_zero]
        exact c
      · rw [ptA_3 q q2]
        exact c
theorem Prt.grow {A : Int → Int → Rat} {a b v : Int} {O : Rat} {P Q : Int → Int} (p : Prt A a O P Q) (hv : -16777216 < v ∧ v < 16777216) (z : P b = 0) : Prt (stA A a b (A a b + Rat.divInt v 1)) a O (atF P b v) (atF Q b 1) :=
  p.row (fun r j h => if_neg (fun q => h q.1)) fun ha j j0 j1 => by
    have c := p.cur ha j j0 j1
    unfold atF stA
    by_cases q : j = b
    · subst q
      rw [if_pos rfl, if_pos rfl, if_pos ⟨rfl, rfl⟩, c.2.2, z, Rat.zero_divInt, Rat.zero_add]
      exact ⟨⟨by decide, by decide⟩, hv, rfl⟩
    · rw [if_neg q, if_neg q, if_neg (fun w => q w.2)]
      exact c
/-! the check of a row -/
def rs (P Q : Int → Int) (f : Int) : Nat → Int
  | 0 => 0
  | n + 1 => rs P Q f n + ((f * P n / Q n).natAbs : Int)
def allN : Nat → (Nat → Bool) → Bool
  | 0, _ => true
  | n + 1, g => g n && allN n g
theorem allN_at {g : Nat → Bool} : ∀ {n : Nat}, allN n g = true → ∀ j, j < n → g j = true
  | 0, _, j, h => absurd h (by omega)
  | n + 1, a, j, h => by
    have b := (Bool.and_eq_true ..).mp (show (g n && allN n g) = true from a)
    by_cases q : j = n
    · rw [q]
      exact b.1
    · exact allN_at b.2 j (by omega)
def RWc (P Q : Int → Int) (f u v : Int) : Bool := decide (0 < f ∧ f ≤ u + v ∧ 1 ≤ u + v ∧ rs P Q f 12 ≤ u) && allN 28 fun x => decide ((64 * f * P x) % Q x = 0 ∧ (x < 12 → (f * P x) % Q x = 0) ∧ ((64 * f * P x / Q x).natAbs : Int) ≤ 64 * v)
theorem fr_int {f p q : Int} (hq : 0 < q) (h : (f * p) % q = 0) : (f : Rat) * Rat.divInt p q = ((f * p / q : Int) : Rat) := by
  have e : f * p / q * q = f * p := Int.ediv_mul_cancel (Int.dvd_of_emod_eq_zero h)
  have e2 : (f : Rat) * p = ((f * p / q : Int) : Rat) * q := by rw [← Rat.intCast_mul, ← Rat.intCast_mul, e]
  have q0 : (q : Rat) ≠ 0 := fun w => by
    have := Rat.intCast_eq_zero_iff.mp w
    omega
  rw [Rat.divInt_eq_div, Rat.div_def, ← Rat.mul_assoc, e2, Rat.mul_assoc, Rat.mul_inv_cancel _ q0, Rat.mul_one]
theorem RW.of {R : Int → Rat} {P Q : Int → Int} {f u v : Int} (c : Cu R P Q) (ck : RWc P Q f u v = true) : RW (fun x : Nat => R x) (f : Rat) ((u + v : Int) : Rat) := by
  have k := (Bool.and_eq_true ..).mp ck
  have k1 := of_decide_eq_true k.1
  have k2 : ∀ x, x < 28 → _ := fun x hx => of_decide_eq_true (allN_at k.2 x hx)
  have a64 : ab 64 = 64 := ab_pos (by decide)
  have va : ∀ x : Nat, x < 28 → ab ((f : Rat) * R x) ≤ (v : Rat) := fun x hx => by
    have d := c x (by omega) (by omega)
    have q := k2 x hx
    have e := fr_int (f := 64 * f) d.1.1 q.1
    rw [← d.2.2, Rat.intCast_mul] at e
    have e3 : ab (64 * ((f : Rat) * R x)) = (((64 * f * P x / Q x).natAbs : Int) : Rat) := by
      rw [← ab_int, ← e, ← Rat.mul_assoc]
      rfl
    rw [ab_mul, a64] at e3
    have e4 : (((64 * f * P x / Q x).natAbs : Int) : Rat) ≤ ((64 * v : Int) : Rat) := Rat.intCast_le_intCast.mpr q.2.2
    rw [Rat.intCast_mul] at e4
    have e5 : ((64 : Int) : Rat) = 64 := rfl
    rw [e5] at e4
    grind
  have su : ∀ n : Nat, n ≤ 12 → sumN n (fun j => ab ((f : Rat) * R j)) = ((rs P Q f n : Int) : Rat) := fun n => by
    induction n with
    | zero => exact fun _ => rfl
    | succ n ih =>
      intro hn
      have d := c n (by omega) (by omega)
      have e := fr_int (f := f) d.1.1 ((k2 n (by omega)).2.1 (by omega))
      rw [← d.2.2] at e
      show sumN n (fun j => ab ((f : Rat) * R j)) + ab ((f : Rat) * R n) = ((rs P Q f n + ((f * P n / Q n).natAbs : Int) : Int) : Rat)
      rw [ih (by omega), e, ab_int, Rat.intCast_add]
  have s12 : sumN 12 (fun j => ab ((f : Rat) * R j)) ≤ (u : Rat) := by
    rw [su 12 (Nat.le_refl _)]
    exact Rat.intCast_le_intCast.mpr k1.2.2.2
  have w1 : (1 : Rat) ≤ ((u + v : Int) : Rat) := Rat.intCast_le_intCast.mpr k1.2.2.1
  refine ⟨Rat.intCast_pos.mpr k1.1, ⟨f, rfl⟩, Rat.intCast_le_intCast.mpr k1.2.1, w1, fun x hx => ?_, fun x hx => ?_, fun x hx => ?_⟩
  · have d := c x (by omega) (by omega)
    have e := fr_int (f := f) d.1.1 ((k2 x (by omega)).2.1 hx)
    rw [← d.2.2] at e
    exact ⟨_, e⟩
  · have d := c x (by omega) (by omega)
    have e := fr_int (f := 64 * f) d.1.1 (k2 x hx).1
    rw [← d.2.2, Rat.intCast_mul, Rat.mul_assoc] at e
    exact ⟨_, e⟩
  · have a := va x hx
    have g := gx_one x
    have m := Rat.mul_le_mul_of_nonneg_right g (show (0 : Rat) ≤ ((u + v : Int) : Rat) by grind)
    rw [Rat.intCast_add] at m ⊢
    show sumN 12 (fun j => ab ((f : Rat) * R j)) + ab ((f : Rat) * R x) ≤ _
    grind
/-- how far a node is set down stands in the last column -/
theorem RW.settle {R R' : Nat → Rat} {f w : Rat} {s : Int} (r : RW R f w) (o : ∀ x, x ≠ 27 → R' x = R x) (e : R' 27 = (s : Rat)) (hs : -1000 ≤ s ∧ s ≤ 1000) (hf : f ≤ 72) : RW R' f w := by
  have se : sumN 12 (fun j => ab (f * R' j)) = sumN 12 (fun j => ab (f * R j)) := sumN_congr 12 fun j hj => by rw [o j (by omega)]
  have f0 := r.f0
  refine ⟨f0, r.fz, r.fw, r.w1, fun x hx => ?_, fun x hx => ?_, fun x hx => ?_⟩
  · rw [o x (by omega)]
    exact r.z1 x hx
  · by_cases q : x = 27
    · rw [q, e]
      exact isZ.mul ⟨64, rfl⟩ (r.fz.mul ⟨s, rfl⟩)
    · rw [o x q]
      exact r.z2 x hx
  · rw [se]
    by_cases q : x = 27
    · rw [q, e]
      have g : gx 27 = 72001 := if_neg (by omega)
      have a : ab (f * (s : Rat)) ≤ 72000 := by
        rw [ab_mul, ab_pos (by grind), ab_int]
        have m : ((s.natAbs : Int) : Rat) ≤ ((1000 : Int) : Rat) := Rat.intCast_le_intCast.mpr (by omega)
        have m0 : (0 : Rat) ≤ ((s.natAbs : Int) : Rat) := Rat.intCast_nonneg.mpr (by omega)
        have m2 := mul_le_mul2 (a := f) (b := 72) (c := ((s.natAbs : Int) : Rat)) (d := ((1000 : Int) : Rat)) (by grind) hf m0 m
        have m3 : (72 : Rat) * ((1000 : Int) : Rat) = 72000 := by decide +kernel
        grind
      have w1 := r.w1
      have s0 := r.s0
      rw [g]
      grind
    · rw [o x q]
      exact r.bd x hx
theorem Prt.done {A : Int → Int → Rat} {e e' : Int} {O w : Rat} {P Q : Int → Int} {f u v : Int} (p : Prt A e O P Q) (he : e < 12) (e1 : e' = e + 1) (ck : RWc P Q f u v = true) (ew : ((u + v : Int) : Rat) ≤ w) : Prt A e' (O * w) zP oQ := (p.next he (RW.of (p.cur he) ck) e1).up (Rat.mul_le_mul_of_nonneg_left ew p.nn)
theorem Prt.doneS {A : Int → Int → Rat} {e e' s : Int} {O w : Rat} {P Q : Int → Int} {f u v : Int} (p : Prt A e O (atF P 27 s) (atF Q 27 1)) (he : e < 12) (e1 : e' = e + 1) (ck : RWc P Q f u v = true) (z : P 27 = 0) (hq : Q 27 = 1) (hs : -1000 ≤ s ∧ s ≤ 1000) (hf : f ≤ 72) (ew : ((u + v : Int) : Rat) ≤ w) : Prt A e' (O * w) zP oQ := by
  have c := p.cur he
  have c0 : Cu (fun j => if j = 27 then 0 else A e j) P Q := fun j j0 j1 => by
    have d := c j j0 j1
    unfold atF at d
    by_cases q : j = 27
    · rw [q, z, hq]
      exact ⟨⟨by decide, by decide⟩, ⟨by decide, by decide⟩, by
        show (if (27 : Int) = 27 then (0 : Rat) else A e 27) = Rat.divInt 0 1
        rw [if_pos rfl, Rat.zero_divInt]⟩
    · rw [if_neg q, if_neg q] at d
      exact ⟨d.1, d.2.1, by
        show (if j = 27 then (0 : Rat) else A e j) = Rat.divInt (P j) (Q j)
        rw [if_neg q]
        exact d.2.2⟩
  refine (p.next he (RW.settle (RW.of c0 ck) (s := s) (fun x hx => ?_) ?_ hs (Rat.intCast_le_intCast.mpr hf)) e1).up (Rat.mul_le_mul_of_nonneg_left ew p.nn)
  · show A e (x : Int) = if (x : Int) = 27 then 0 else A e (x : Int)
    rw [if_neg (by omega)]
  · have d := (c 27 (by decide) (by decide)).2.2
    unfold atF at d
    rw [if_pos rfl, if_pos rfl] at d
    show A e ((27 : Nat) : Int) = _
    rw [show ((27 : Nat) : Int) = 27 from rfl, d, Rat.divInt_eq_div, Rat.div_def]
    show (s : Rat) * (1 : Rat)⁻¹ = _
    rw [show (1 : Rat)⁻¹ = 1 from by decide +kernel, Rat.mul_one]
theorem ck_all {n : Nat} {g : Int → Int → Int → Bool} (h : allN n (fun k => allN 12 fun l => allN 12 fun e => g k (l + 1) (e + 1)) = true) {k l e : Int} (hk : 0 ≤ k ∧ k < n) (hl : 1 ≤ l ∧ l ≤ 12) (he : 1 ≤ e ∧ e ≤ 12) : g k l e = true := by
  have a := allN_at (allN_at (allN_at h k.toNat (by omega)) (l - 1).toNat (by omega)) (e - 1).toNat (by omega)
  have e1 : ((k.toNat : Nat) : Int) = k := by omega
  have e2 : (((l - 1).toNat : Nat) : Int) + 1 = l := by omega
  have e3 : (((e - 1).toNat : Nat) : Int) + 1 = e := by omega
  rw [e1, e2, e3] at a
  exact a
/-- heights at a right end -/
theorem ckH {k l e : Int} (hk : 0 ≤ k ∧ k < (3 : Nat)) (hl : 1 ≤ l ∧ l ≤ 12) (he : 1 ≤ e ∧ e ≤ 12) : RWc (plP zP k 0 1 l) (plQ oQ k 0 e) (6 * e) 3096 1800 = true := ck_all (g := fun k l e => RWc (plP zP k 0 1 l) (plQ oQ k 0 e) (6 * e) 3096 1800) (by decide +kernel) hk hl he
/-- heights on both sides -/
theorem ckHH {k l e : Int} (hk : 0 ≤ k ∧ k < (2 : Nat)) (hl : 1 ≤ l ∧ l ≤ 12) (he : 1 ≤ e ∧ e ≤ 12) : RWc (atF (plP zP k 0 1 l) (4 * (k + 1) + 0) (-1)) (atF (plQ oQ k 0 e) (4 * (k + 1) + 0) 1) (6 * e) 3168 1728 = true := ck_all (g := fun k l e => RWc (atF (plP zP k 0 1 l) (4 * (k + 1) + 0) (-1)) (atF (plQ oQ k 0 e) (4 * (k + 1) + 0) 1) (6 * e) 3168 1728) (by decide +kernel) hk hl he
/-- a number alone -/
theorem ck1 {k w t : Int} (hk : 0 ≤ k ∧ k < 3) (hw : 0 ≤ w ∧ w ≤ 3) (ht : t = 1 ∨ t = -1) : RWc (atF zP (4 * k + w) t) (atF oQ (4 * k + w) 1) 1 1 1 = true := by
  have a : allN 3 (fun k => allN 4 fun w => RWc (atF zP (4 * k + w) 1) (atF oQ (4 * k + w) 1) 1 1 1 && RWc (atF zP (4 * k + w) (-1)) (atF oQ (4 * k + w) 1) 1 1 1) = true := by decide +kernel
  have b := (Bool.and_eq_true ..).mp (allN_at (allN_at a k.toNat (by omega)) w.toNat (by omega))
  have e1 : ((k.toNat : Nat) : Int) = k := by omega
  have e2 : ((w.toNat : Nat) : Int) = w := by omega
  rw [e1, e2] at b
  rcases ht with e | e
  · rw [e]
    exact b.1
  · rw [e]
    exact b.2
/-- shears -/
theorem ckS {k l e : Int} (hk : 0 ≤ k ∧ k < (3 : Nat)) (hl : 1 ≤ l ∧ l ≤ 12) (he : 1 ≤ e ∧ e ≤ 12) : RWc (atF (atF zP (4 * k + 3) 1) (12 + 5 * k) (-1)) (atF (atF oQ (4 * k + 3) 1) (12 + 5 * k) 1) 1 1 1 = true ∧ RWc (atF (plP zP k 3 (-1) l) (12 + 5 * k + 4) (-1)) (atF (plQ oQ k 3 e) (12 + 5 * k + 4) 1) 1 1 1 = true := by
  have a := ck_all (g := fun k l e => RWc (atF (atF zP (4 * k + 3) 1) (12 + 5 * k) (-1)) (atF (atF oQ (4 * k + 3) 1) (12 + 5 * k) 1) 1 1 1 && RWc (atF (plP zP k 3 (-1) l) (12 + 5 * k + 4) (-1)) (atF (plQ oQ k 3 e) (12 + 5 * k + 4) 1) 1 1 1) (by decide +kernel) hk hl he
  exact (Bool.and_eq_true ..).mp a
theorem ckSS {k l e : Int} (hk : 0 ≤ k ∧ k < (2 : Nat)) (hl : 1 ≤ l ∧ l ≤ 12) (he : 1 ≤ e ∧ e ≤ 12) : RWc (atF (plP (atF (atF zP (4 * (k + 1) + 3) 1) (12 + 5 * (k + 1)) (-1)) k 3 (-1) l) (12 + 5 * k + 4) (-1)) (atF (plQ (atF (atF oQ (4 * (k + 1) + 3) 1) (12 + 5 * (k + 1)) 1) k 3 e) (12 + 5 * k + 4) 1) 1 2 1 = true := ck_all (g := fun k l e => RWc (atF (plP (atF (atF zP (4 * (k + 1) + 3) 1) (12 + 5 * (k + 1)) (-1)) k 3 (-1) l) (12 + 5 * k + 4) (-1)) (atF (plQ (atF (atF oQ (4 * (k + 1) + 3) 1) (12 + 5 * (k + 1)) 1) k 3 e) (12 + 5 * k + 4) 1) 1 2 1) (by decide +kernel) hk hl he
/-- moments -/
theorem ckM {k l e : Int} (hk : 0 ≤ k ∧ k < (3 : Nat)) (hl : 1 ≤ l ∧ l ≤ 12) (he : 1 ≤ e ∧ e ≤ 12) : RWc (plP zP k 2 1 l) (plQ oQ k 2 e) 1 13 12 = true := ck_all (g := fun k l e => RWc (plP zP k 2 1 l) (plQ oQ k 2 e) 1 13 12) (by decide +kernel) hk hl he
theorem ckMM {k l e : Int} (hk : 0 ≤ k ∧ k < (2 : Nat)) (hl : 1 ≤ l ∧ l ≤ 12) (he : 1 ≤ e ∧ e ≤ 12) : RWc (atF (plP zP k 2 1 l) (4 * (k + 1) + 2) (-1)) (atF (plQ oQ k 2 e) (4 * (k + 1) + 2) 1) 1 14 12 = true := ck_all (g := fun k l e => RWc (atF (plP zP k 2 1 l) (4 * (k + 1) + 2) (-1)) (atF (plQ oQ k 2 e) (4 * (k + 1) + 2) 1) 1 14 12) (by decide +kernel) hk hl he
/-- turns -/
theorem ckT {k l e : Int} (hk : 0 ≤ k ∧ k < (3 : Nat)) (hl : 1 ≤ l ∧ l ≤ 12) (he : 1 ≤ e ∧ e ≤ 12) : RWc (plP zP k 1 1 l) (plQ oQ k 1 e) (2 * e) 192 144 = true := ck_all (g := fun k l e => RWc (plP zP k 1 1 l) (plQ oQ k 1 e) (2 * e) 192 144) (by decide +kernel) hk hl he
theorem ckTT {k l e : Int} (hk : 0 ≤ k ∧ k < (2 : Nat)) (hl : 1 ≤ l ∧ l ≤ 12) (he : 1 ≤ e ∧ e ≤ 12) : RWc (atF (plP zP k 1 1 l) (4 * (k + 1) + 1) (-1)) (atF (plQ oQ k 1 e) (4 * (k + 1) + 1) 1) (2 * e) 216 144 = true := ck_all (g := fun k l e => RWc (atF (plP zP k 1 1 l) (4 * (k + 1) + 1) (-1)) (atF (plQ oQ k 1 e) (4 * (k + 1) + 1) 1) (2 * e) 216 144) (by decide +kernel) hk hl he
/-- numbers outside of what a put makes -/
theorem plP_o {P : Int → Int} {k w t l j : Int} (h : ¬(4 * k ≤ j ∧ j < 4 * k + 4)) (h2 : ¬(13 + 5 * k ≤ j ∧ j < 16 + 5 * k)) : plP P k w t l j = P j := by
  unfold plP
  rw [if_neg h, if_neg h2]
theorem atF_o {P : Int → Int} {b v j : Int} (h : j ≠ b) : atF P b v j = P j := if_neg h
theorem plQ_o {Q : Int → Int} {k w e j : Int} (h : ¬(4 * k ≤ j ∧ j < 4 * k + 4)) (h2 : ¬(13 + 5 * k ≤ j ∧ j < 16 + 5 * k)) : plQ Q k w e j = Q j := by
  unfold plQ
  rw [if_neg h, if_neg h2]
/-- one field of an object changed, among other cells -/
theorem Str.but {t rf : List (Nat × Nat × Nat)} {cs : List Nat} {h h' : MH} {c : Nat} {F : Int} (g : Str t rf h) (a : Only cs h h') (w : ∀ j : Int, 0 ≤ j → j ≠ F → ga h' c j = ga h c j) (n : ∀ q ∈ rf, q.1 ∉ cs ∨ (q.1 = c ∧ (q.2.1 : Int) ≠ F)) : Str t rf h' := ⟨fun q m => ⟨by rw [a.1]; exact (g.1 q m).1, by rw [(a.2.1 q.1).1]; exact (g.1 q m).2.1, fun l => by rw [(a.2.1 q.1).2]; exact (g.1 q m).2.2 l⟩, fun q m => by
  rcases n q m with e | e
  · rw [a.2.2 q.1 e]
    exact g.2 q m
  · have k := w q.2.1 (Int.natCast_nonneg _) e.2
    unfold ga at k
    rw [Int.toNat_natCast] at k
    rw [e.1, k, ← e.1]
    exact g.2 q m⟩
/-- a row was written, or not: how many there are, how large their numbers -/
def Cw (c : Prop) (E E0 : Int) (O O0 f : Rat) : Prop := (c ∧ E = E0 + 1 ∧ O = O0 * f) ∨ (¬c ∧ E = E0 ∧ O = O0)
theorem Cw.y {c : Prop} {E0 : Int} {O0 f : Rat} (h : c) : Cw c (E0 + 1) E0 (O0 * f) O0 f := Or.inl ⟨h, rfl, rfl⟩
theorem Cw.n {c : Prop} {E0 : Int} {O0 f : Rat} (h : ¬c) : Cw c E0 E0 O0 O0 f := Or.inr ⟨h, rfl, rfl⟩
theorem Cw.e {c : Prop} {E E0 : Int} {O O0 f : Rat} (h : Cw c E E0 O O0 f) : (c ∧ E = E0 + 1) ∨ (¬c ∧ E = E0) := h.elim (fun a => Or.inl ⟨a.1, a.2.1⟩) fun a => Or.inr ⟨a.1, a.2.1⟩
theorem hb_a {n M e E2 : Int} {O O2 O9 : Rat} (c : Cw (0 < n) E2 e O2 O 4896) (h : 0 < n) (b : O * 4896 ≤ O9) : O2 ≤ O9 := by
  rcases c with ⟨_, _, q⟩ | ⟨w, _, _⟩
  · rw [q]
    exact b
  · exact absurd h w
theorem hb_b {n M e E2 : Int} {O O2 O9 : Rat} (o : 0 ≤ O) (hn : 0 ≤ n) (c : Cw (0 < n) E2 e O2 O 4896) (h : n < M) (b1 : n = 0 → O * 3 ≤ O9) (b2 : 0 < n → n < M → O * 14688 ≤ O9) : O2 * 2 ≤ O9 := by
  rcases c with ⟨w, _, q⟩ | ⟨w, _, q⟩
  · have := b2 w h
    rw [q]
    grind
  · have := b1 (by omega)
    rw [q]
    grind
theorem hb_c {n M e E2 : Int} {O O2 O9 : Rat} (o : 0 ≤ O) (hn : 0 ≤ n) (c : Cw (0 < n ∧ n < M) E2 e O2 O 4896) (h : n ≤ M) (b1 : n = 0 → O * 3 ≤ O9) (b2 : 0 < n → n < M → O * 14688 ≤ O9) (b3 : n = M → O * 4896 ≤ O9) : O2 * 3 ≤ O9 := by
  rcases c with ⟨w, _, q⟩ | ⟨w, _, q⟩
  · have := b2 w.1 w.2
    rw [q]
    grind
  · rw [q]
    by_cases z : n = 0
    · exact b1 z
    · have := b3 (by omega)
      grind
theorem tu_a {n M lf rg e E2 E3 E4 : Int} {O O2 O3 O4 O9 g : Rat} (o : 0 ≤ O) (hn : 0 ≤ n) (hM : 1 ≤ M) (h : n ≤ M) (lv : (lf = 1 ∧ 0 < n) ∨ lf = 0) (rv : (rg = 1 ∧ n < M) ∨ rg = 0) (c2 : Cw (0 < n ∧ lf = 0) E2 e O2 O 25) (c3 : Cw (n < M ∧ rg = 0) E3 E2 O3 O2 2) (c4 : Cw (lf = 1) E4 E3 O4 O3 336) (hg : (rg = 0 ∧ g = 1) ∨ (rg = 1 ∧ g = 2)) (b1 : n = 0 → O * 2 ≤ O9) (b2 : 0 < n → n < M → O * 9360 ≤ O9) (b3 : n = M → O * 336 ≤ O9) : O4 * g ≤ O9 := by
  rcases c2 with ⟨a2, _, q2⟩ | ⟨a2, _, q2⟩ <;> rcases c3 with ⟨a3, _, q3⟩ | ⟨a3, _, q3⟩ <;> rcases c4 with ⟨a4, _, q4⟩ | ⟨a4, _, q4⟩ <;> rcases hg with ⟨a5, q5⟩ | ⟨a5, q5⟩ <;> rw [q4, q3, q2, q5]
  all_goals clear q2 q3 q4 q5
  all_goals first
    | (exfalso; omega)
    | (have := b2 (by omega) (by omega); grind)
    | (have := b1 (by omega); grind)
    | (have := b3 (by omega); grind)
theorem tu_b {n M lf rg e E2 E3 E4 : Int} {O O2 O3 O4 O9 g : Rat} (o : 0 ≤ O) (hn : 0 ≤ n) (hM : 1 ≤ M) (h : n ≤ M) (lv : (lf = 1 ∧ 0 < n) ∨ lf = 0) (rv : (rg = 1 ∧ n < M) ∨ rg = 0) (c2 : Cw (0 < n ∧ lf = 0) E2 e O2 O 25) (c3 : Cw (n < M ∧ rg = 0) E3 E2 O3 O2 2) (c4 : Cw (lf = 1 ∧ rg = 1) E4 E3 O4 O3 360) (hg : (lf = 1 ∧ rg = 1 ∧ g = 26) ∨ (lf = 1 ∧ rg = 0 ∧ g = 25) ∨ (lf = 0 ∧ rg = 1 ∧ g = 2) ∨ (lf = 0 ∧ rg = 0 ∧ g = 1)) (b1 : n = 0 → O * 2 ≤ O9) (b2 : 0 < n → n < M → O * 9360 ≤ O9) (b3 : n = M → O * 336 ≤ O9) : O4 * g ≤ O9 := by
  rcases c2 with ⟨a2, _, q2⟩ | ⟨a2, _, q2⟩ <;> rcases c3 with ⟨a3, _, q3⟩ | ⟨a3, _, q3⟩ <;> rcases c4 with ⟨a4, _, q4⟩ | ⟨a4, _, q4⟩ <;> rcases hg with ⟨a5, a6, q5⟩ | ⟨a5, a6, q5⟩ | ⟨a5, a6, q5⟩ | ⟨a5, a6, q5⟩ <;> rw [q4, q3, q2, q5]
  all_goals clear q2 q3 q4 q5
  all_goals first
    | (exfalso; omega)
    | (have := b2 (by omega) (by omega); grind)
    | (have := b1 (by omega); grind)
    | (have := b3 (by omega); grind)
