/-! the table of X14: how much of what a beam has comes of an unknown, and what a load in it does -/
theorem mul_b {a b A B : Int} (ha : 0 ≤ a ∧ a ≤ A) (hb : 0 ≤ b ∧ b ≤ B) : 0 ≤ a * b ∧ a * b ≤ A * B := ⟨Int.mul_nonneg ha.1 hb.1, Int.mul_le_mul ha.2 hb.2 hb.1 (Int.le_trans ha.1 ha.2)⟩
theorem mul_pp {a b A B : Int} (ha : 0 < a ∧ a ≤ A) (hb : 1 ≤ b ∧ b ≤ B) : 0 < a * b ∧ a * b ≤ A * B := ⟨Int.mul_pos ha.1 (by omega), (mul_b ⟨by omega, ha.2⟩ ⟨by omega, hb.2⟩).2⟩
def cfN (n x l : Int) : Int := if n = 1 then x * l else if n = 2 then x * x * l * l else x * x * x * l * l * l
def cfU (w x u l : Int) : Int := if w = u then 1 else if w < u then (if w < 2 ∧ 1 < u then -cfN (u - w) x l else cfN (u - w) x l) else 0
def cfM (n : Int) : Int := if n = 1 then 4 else if n = 2 then 32 else 384
def cfD (w u e : Int) : Int := if w < u then (if w < 2 ∧ 1 < u then cfM (u - w) * e else cfM (u - w)) else 1
def odX (x ld : Int) : Int := if ld < x then x - ld else 0
def owU (w x ld l : Int) : Int := if w = 3 then (if ld < x then -1 else 0) else if w = 2 then -odX x ld * l else if w = 1 then odX x ld * odX x ld * l * l else odX x ld * odX x ld * odX x ld * l * l * l
def owD (w e : Int) : Int := if w = 3 then 1 else if w = 2 then 4 else if w = 1 then 32 * e else 384 * e
/-- the table: 12 rows of 28 fractions, upper parts first, lower parts 336 numbers behind -/
def Tab (z s : Nat) (h : MH) (A : Int → Int → Rat) : Prop := ∀ r k : Int, 0 ≤ r → r < 12 → 0 ≤ k → k < 28 → Hr 70 z s h (28 * r + k) (336 + (28 * r + k)) (A r k)
/-- how large a fraction's parts are -/
def SzQ (m : Nat) (r : Rat) : Prop := (r.num.natAbs : Int) < PW m ∧ (((r.den : Int)).natAbs : Int) < PW m
theorem Hr.keep {W : Int} {z s : Nat} {h h' : MH} {T : List Int} {u d : Int} {r : Rat} (hW : 0 < W) (C : Ch W z s T h h') (hu : 0 ≤ u) (hd : 0 ≤ d) (mu : u ∉ T) (md : d ∉ T) (v : Hr W z s h u d r) : Hr W z s h' u d r := Pr.keep hW C hu hd mu md v
theorem notmem_of {L : List Int} {n m : Int} (l : ∀ q ∈ L, m ≤ q) (h : n < m) : n ∉ L := fun x => by
  have := l n x
  omega
theorem Tab.congr {z s : Nat} {h : MH} {A B : Int → Int → Rat} (t : Tab z s h A) (e : ∀ r k, 0 ≤ r → r < 12 → 0 ≤ k → k < 28 → A r k = B r k) : Tab z s h B := fun r k a b c d => (t r k a b c d).r (e r k a b c d)
theorem Tab.keep {z s : Nat} {h h' : MH} {L : List Int} {A : Int → Int → Rat} (t : Tab z s h A) (C : Ch 70 z s L h h') (l : ∀ n ∈ L, 672 ≤ n) : Tab z s h' A := fun r k a b c d => (t r k a b c d).keep (by decide) C (by omega) (by omega) (notmem_of l (by omega)) (notmem_of l (by omega))
def stA (A : Int → Int → Rat) (a b : Int) (v : Rat) : Int → Int → Rat := fun r k => if r = a ∧ k = b then v else A r k
theorem Tab.set {z s : Nat} {h h' : MH} {L : List Int} {A : Int → Int → Rat} {a b : Int} {v : Rat} (t : Tab z s h A) (C : Ch 70 z s ((28 * a + b) :: (336 + (28 * a + b)) :: L) h h') (l : ∀ n ∈ L, 672 ≤ n) (ha : 0 ≤ a) (ha2 : a < 12) (hb : 0 ≤ b) (hb2 : b < 28) (p : Hr 70 z s h' (28 * a + b) (336 + (28 * a + b)) v) : Tab z s h' (stA A a b v) := fun r k r0 r1 k0 k1 => by
  unfold stA
  by_cases e : r = a ∧ k = b
  · rw [if_pos e, e.1, e.2]
    exact p
  · rw [if_neg e]
    refine (t r k r0 r1 k0 k1).keep (by decide) C (by omega) (by omega) ?_ ?_
    · exact nmc (by omega) (nmc (by omega) (notmem_of l (by omega)))
    · exact nmc (by omega) (nmc (by omega) (notmem_of l (by omega)))
def exA (A : Int → Int → Rat) (a b : Int) : Int → Int → Rat := fun r k => if r = a then A b k else if r = b then A a k else A r k
/-- the first c columns are exchanged -/
def exP (A : Int → Int → Rat) (a b c : Int) : Int → Int → Rat := fun r k => if k < c then exA A a b r k else A r k
theorem exP_at {A : Int → Int → Rat} {a b c r : Int} : exP A a b c r c = A r c := if_neg (Int.lt_irrefl _)
theorem Tab.ex0 {z s : Nat} {h : MH} {A : Int → Int → Rat} {a b : Int} (t : Tab z s h A) : Tab z s h (exP A a b 0) := t.congr fun r k _ _ k0 _ => (if_neg (by omega)).symm
theorem Tab.ex {z s : Nat} {h h' : MH} {A : Int → Int → Rat} {a b c : Int} (t : Tab z s h (exP A a b c)) (C : Ch 70 z s [677, 678, (28 * a + c), (336 + (28 * a + c)), (28 * b + c), (336 + (28 * b + c))] h h') (ha : 0 ≤ a) (ha2 : a < 12) (hb : 0 ≤ b) (hb2 : b < 12) (hc : 0 ≤ c) (hc2 : c < 28) (ab : a ≠ b) (p : Hr 70 z s h' (28 * a + c) (336 + (28 * a + c)) (A b c)) (q : Hr 70 z s h' (28 * b + c) (336 + (28 * b + c)) (A a c)) : Tab z s h' (exP A a b (c + 1)) := fun r k r0 r1 k0 k1 => by
  by_cases e : k = c
  · subst e
    unfold exP exA
    rw [if_pos (by omega)]
    by_cases e1 : r = a
    · rw [if_pos e1, e1]
      exact p
    · rw [if_neg e1]
      by_cases e2 : r = b
      · rw [if_pos e2, e2]
        exact q
      · rw [if_neg e2]
        refine ((t r k r0 r1 k0 k1).r exP_at).keep (by decide) C (by omega) (by omega) ?_ ?_
        · exact nmc (by omega) (nmc (by omega) (nmc (by omega) (nmc (by omega) (nmc (by omega) (nm1 (by omega))))))
        · exact nmc (by omega) (nmc (by omega) (nmc (by omega) (nmc (by omega) (nmc (by omega) (nm1 (by omega))))))
  · have e9 : exP A a b (c + 1) r k = exP A a b c r k := by
      unfold exP
      by_cases w : k < c
      · rw [if_pos w, if_pos (by omega)]
      · rw [if_neg w, if_neg (by omega)]
    rw [e9]
    refine (t r k r0 r1 k0 k1).keep (by decide) C (by omega) (by omega) ?_ ?_
    · exact nmc (by omega) (nmc (by omega) (nmc (by omega) (nmc (by omega) (nmc (by omega) (nm1 (by omega))))))
    · exact nmc (by omega) (nmc (by omega) (nmc (by omega) (nmc (by omega) (nmc (by omega) (nm1 (by omega))))))
theorem Tab.exE {z s : Nat} {h : MH} {A : Int → Int → Rat} {a b c : Int} (t : Tab z s h (exP A a b c)) (e : 28 ≤ c ∨ a = b) : Tab z s h (exA A a b) := t.congr fun r k _ _ k0 k1 => by
  unfold exP
  by_cases w : k < c
  · rw [if_pos w]
  · rw [if_neg w]
    have w2 : a = b := by omega
    unfold exA
    rw [← w2]
    by_cases e1 : r = a
    · rw [if_pos e1, e1]
    · rw [if_neg e1, if_neg e1]
/-- a quotient's parts in least terms are no greater -/
theorem divInt_sz {p q : Int} (hq : 0 < q) : (Rat.divInt p q).num.natAbs ≤ p.natAbs ∧ (Rat.divInt p q).den ≤ q.natAbs := by
  have sq : q.sign = 1 := Int.sign_eq_one_of_pos hq
  have g0 : 0 < Int.gcd q p := Int.gcd_pos_of_ne_zero_left _ (by omega)
  constructor
  · rw [Rat.num_divInt, sq, Int.one_mul]
    have e : (p / (Int.gcd q p : Int)).natAbs * Int.gcd q p = p.natAbs := by
      have d : (Int.gcd q p : Int) ∣ p := Int.gcd_dvd_right ..
      have w := congrArg Int.natAbs (Int.ediv_mul_cancel d)
      rw [Int.natAbs_mul] at w
      exact w
    have := Nat.le_mul_of_pos_right (p / (Int.gcd q p : Int)).natAbs g0
    omega
  · rw [Rat.den_divInt, if_neg (by omega)]
    exact Nat.div_le_self _ _
theorem SzQ.mul {m n : Nat} {a b : Rat} (ha : SzQ m a) (hb : SzQ n b) : SzQ (m + n) (a * b) := by
  have a0 := a.den_pos
  have b0 := b.den_pos
  have q := divInt_sz (p := a.num * b.num) (q := (a.den : Int) * b.den) (Int.mul_pos (by omega) (by omega))
  rw [rat_mul] at q
  have s1 := PW_mul ha.1 hb.1
  have s2 := PW_mul ha.2 hb.2
  exact ⟨by omega, by omega⟩
theorem SzQ.neg {m : Nat} {a : Rat} (ha : SzQ m a) : SzQ m (-a) := by
  have e : (-a).num.natAbs = a.num.natAbs := Int.natAbs_neg a.num
  exact ⟨by rw [e]; exact ha.1, ha.2⟩
theorem rat_num0 {r : Rat} (h : r.num = 0) : r = 0 := by rw [← rat_nd r, h, Rat.zero_divInt]
theorem Hr.neg {W : Int} {z s : Nat} {h : MH} {u d w : Int} {r : Rat} (v : Hr W z s h u d r) (e : w = ga h s u) (zs : z ≠ s) (hu : 0 ≤ u) (hd : 0 ≤ d) (ud : d ≠ u) : Hr W z s (sa h s u (-w)) u d (-r) := by
  rw [e]
  exact ⟨v.1.neg zs hu, v.2.1.other zs hu hd ud, v.2.2⟩
/-- a multiple of row b goes from row a: the columns from c on, as far as i -/
def tkP (A : Int → Int → Rat) (a b c i : Int) : Int → Int → Rat := fun r k => if r = a ∧ c ≤ k ∧ k < i then A a k - A b k * A a c else A r k
def tkA (A : Int → Int → Rat) (a b c : Int) : Int → Int → Rat := fun r k => if r = a ∧ c ≤ k then A a k - A b k * A a c else A r k
theorem tkP_o {A : Int → Int → Rat} {a b c i r k : Int} (h : r ≠ a ∨ i ≤ k) : tkP A a b c i r k = A r k := if_neg (by omega)
theorem Tab.tkS {z s : Nat} {h : MH} {A : Int → Int → Rat} {a b c : Int} (t : Tab z s h A) : Tab z s h (tkP A a b c c) := t.congr fun r k _ _ _ _ => (if_neg (by omega)).symm
theorem Tab.tkE {z s : Nat} {h : MH} {A : Int → Int → Rat} {a b c i : Int} (t : Tab z s h (tkP A a b c i)) (e : 28 ≤ i) : Tab z s h (tkA A a b c) := t.congr fun r k _ _ _ _ => by
  unfold tkP tkA
  by_cases w : r = a ∧ c ≤ k
  · rw [if_pos w, if_pos (by omega)]
  · rw [if_neg w, if_neg (by omega)]
theorem Tab.tk {z s : Nat} {h : MH} {A : Int → Int → Rat} {a b c i : Int} (t : Tab z s h (stA (tkP A a b c i) a i (A a i + -(A b i * A a c)))) (hc : c ≤ i) : Tab z s h (tkP A a b c (i + 1)) := t.congr fun r k _ _ _ _ => by
  unfold stA
  by_cases w : r = a ∧ k = i
  · rw [if_pos w, w.1, w.2]
    unfold tkP
    rw [if_pos ⟨rfl, hc, by omega⟩, Rat.sub_eq_add_neg]
  · rw [if_neg w]
    unfold tkP
    by_cases w2 : r = a ∧ c ≤ k ∧ k < i
    · rw [if_pos w2, if_pos (by omega)]
    · rw [if_neg w2, if_neg (by omega)]
theorem Tab.tk0 {z s : Nat} {h : MH} {A : Int → Int → Rat} {a b c i : Int} (t : Tab z s h (tkP A a b c i)) (hz : A b i = 0) : Tab z s h (tkP A a b c (i + 1)) := t.congr fun r k _ _ _ _ => by
  unfold tkP
  by_cases w2 : r = a ∧ c ≤ k ∧ k < i
  · rw [if_pos w2, if_pos (by omega)]
  · rw [if_neg w2]
    by_cases w3 : r = a ∧ c ≤ k ∧ k < i + 1
    · have e : k = i := by omega
      rw [if_pos w3, e, hz, Rat.zero_mul, w3.1, Rat.sub_eq_add_neg, Rat.neg_zero, Rat.add_zero]
    · rw [if_neg w3]
/-! put: what goes into an equation -/
def coQ (w x l e j : Int) : Rat := Rat.divInt (cfU w x j l) (cfD w j e)
def owQ (w x l e j : Int) : Rat := Rat.divInt (owU w x j l) (owD w e)
def tmQ (t : Int) (r : Rat) : Rat := if t = 1 then r else -r
theorem prods {x l : Int} (hx : 0 ≤ x ∧ x ≤ 4) (hl : 1 ≤ l ∧ l ≤ 12) : (0 ≤ x * l ∧ x * l ≤ 48) ∧ (0 ≤ x * x * l * l ∧ x * x * l * l ≤ 2304) ∧ (0 ≤ x * x * x * l * l * l ∧ x * x * x * l * l * l ≤ 110592) := by
  have L0 : 0 ≤ l ∧ l ≤ 12 := by omega
  have m1 := mul_b hx L0
  have m2 := mul_b hx hx
  have m3 := mul_b m2 L0
  have m4 := mul_b m3 L0
  have m5 := mul_b m2 hx
  have m6 := mul_b m5 L0
  have m7 := mul_b m6 L0
  have m8 := mul_b m7 L0
  exact ⟨by omega, by omega, by omega⟩
theorem cfU_b {w x u l : Int} (hx : 0 ≤ x ∧ x ≤ 4) (hl : 1 ≤ l ∧ l ≤ 12) : -110592 ≤ cfU w x u l ∧ cfU w x u l ≤ 110592 := by
  have m := prods hx hl
  unfold cfU cfN
  repeat split
  all_goals omega
theorem cfD_b {w u e : Int} (he : 1 ≤ e ∧ e ≤ 12) : 0 < cfD w u e ∧ cfD w u e ≤ 4608 := by
  have c : 0 < cfM (u - w) ∧ cfM (u - w) ≤ 384 := by
    unfold cfM
    repeat split
    all_goals omega
  have m := mul_pp c he
  unfold cfD
  repeat split
  all_goals omega
theorem odX_b {x ld : Int} (hx : 0 ≤ x ∧ x ≤ 4) (hl : 0 ≤ ld ∧ ld ≤ 4) : 0 ≤ odX x ld ∧ odX x ld ≤ 4 := by
  unfold odX
  split <;> omega
theorem owU_b {w x ld l : Int} (hx : 0 ≤ x ∧ x ≤ 4) (hd : 0 ≤ ld ∧ ld ≤ 4) (hl : 1 ≤ l ∧ l ≤ 12) : -110592 ≤ owU w x ld l ∧ owU w x ld l ≤ 110592 := by
  have m := prods (odX_b hx hd) hl
  have n : -odX x ld * l = -(odX x ld * l) := Int.neg_mul ..
  unfold owU
  repeat split
  all_goals omega
theorem owD_b {w e : Int} (he : 1 ≤ e ∧ e ≤ 12) : 0 < owD w e ∧ owD w e ≤ 4608 := by
  unfold owD
  repeat split
  all_goals omega
theorem divInt_sz1 {p q : Int} (hp : -110592 ≤ p ∧ p ≤ 110592) (hq : 0 < q ∧ q ≤ 4608) : SzQ 1 (Rat.divInt p q) := by
  have s := divInt_sz (p := p) hq.1
  have e : PW 1 = 16777216 := rfl
  exact ⟨by omega, by omega⟩
theorem coQ_sz {w x l e j : Int} (hx : 0 ≤ x ∧ x ≤ 4) (hl : 1 ≤ l ∧ l ≤ 12) (he : 1 ≤ e ∧ e ≤ 12) : SzQ 1 (coQ w x l e j) := divInt_sz1 (cfU_b hx hl) (cfD_b he)
theorem owQ_sz {w x l e j : Int} (hx : 0 ≤ x ∧ x ≤ 4) (hd : 0 ≤ j ∧ j ≤ 4) (hl : 1 ≤ l ∧ l ≤ 12) (he : 1 ≤ e ∧ e ≤ 12) : SzQ 1 (owQ w x l e j) := divInt_sz1 (owU_b hx hd hl) (owD_b he)
theorem SzQ.tm {m : Nat} {t : Int} {r : Rat} (a : SzQ m r) : SzQ m (tmQ t r) := by
  unfold tmQ
  split
  · exact a
  · exact a.neg
theorem rneg_sign (r : Rat) : (-r).num.sign = -r.num.sign := Int.sign_neg r.num
theorem tm_sgn {t : Int} (ht : t = 1 ∨ t = -1) (r : Rat) : r.num.sign * t = (tmQ t r).num.sign := by
  unfold tmQ
  rcases ht with e | e
  · rw [if_pos e, e, Int.mul_one]
  · rw [if_neg (by omega), e, rneg_sign]
    omega
theorem tm_parts (t : Int) (r : Rat) : (tmQ t r).num.natAbs = r.num.natAbs ∧ (tmQ t r).den = r.den := by
  unfold tmQ
  split
  · exact ⟨rfl, rfl⟩
  · exact ⟨Int.natAbs_neg r.num, rfl⟩
/-- the sign of an upper part is set anew -/
theorem Hr.sg {W : Int} {z s : Nat} {h : MH} {u d w : Int} {r y : Rat} (v : Hr W z s h u d r) (zs : z ≠ s) (hu : 0 ≤ u) (hd : 0 ≤ d) (ud : d ≠ u) (e1 : y.num.natAbs = r.num.natAbs) (e2 : y.den = r.den) (hw : w = y.num.sign) : Hr W z s (sa h s u w) u d y := by
  refine ⟨nv_resign v.1 zs hu (by rw [e1]) hw, ?_, ?_⟩
  · rw [e2]
    exact v.2.1.other zs hu hd ud
  · rw [e2]
    exact v.2.2
theorem sg_tm {t w : Int} {r : Rat} (ht : t = 1 ∨ t = -1) (e : w = r.num.sign) : w * t = (tmQ t r).num.sign := e ▸ tm_sgn ht r
theorem sg_tmn {t w : Int} {r : Rat} (ht : t = 1 ∨ t = -1) (e : w = r.num.sign) : -w * t = (tmQ t (-r)).num.sign := by
  rw [e, ← rneg_sign]
  exact tm_sgn ht (-r)
/-- to the columns lo .. hi - 1 of row a something is added -/
def adP (A : Int → Int → Rat) (a : Int) (D : Int → Rat) (lo hi : Int) : Int → Int → Rat := fun r k => if r = a ∧ lo ≤ k ∧ k < hi then A a k + D k else A r k
theorem adP_o {A : Int → Int → Rat} {a : Int} {D : Int → Rat} {lo hi r k : Int} (h : k < lo ∨ hi ≤ k) : adP A a D lo hi r k = A r k := if_neg (by omega)
theorem Tab.ad0 {z s : Nat} {h : MH} {A : Int → Int → Rat} {a : Int} {D : Int → Rat} {lo hi : Int} (t : Tab z s h A) (e : hi ≤ lo) : Tab z s h (adP A a D lo hi) := t.congr fun r k _ _ _ _ => (if_neg (by omega)).symm
theorem Tab.ad {z s : Nat} {h : MH} {A : Int → Int → Rat} {a : Int} {D : Int → Rat} {lo hi b : Int} {v : Rat} (t : Tab z s h (stA (adP A a D lo hi) a hi v)) (e : v = A a hi + D hi) (l : lo ≤ hi) (eb : b = hi + 1) : Tab z s h (adP A a D lo b) := t.congr fun r k _ _ _ _ => by
  unfold stA adP
  by_cases w : r = a ∧ k = hi
  · rw [if_pos w, if_pos (by omega), e, w.2]
  · rw [if_neg w]
    by_cases w2 : r = a ∧ lo ≤ k ∧ k < hi
    · rw [if_pos w2, if_pos (by omega)]
    · rw [if_neg w2, if_neg (by omega)]
theorem Tab.only {z s : Nat} {cs : List Nat} {h h' : MH} {A : Int → Int → Rat} (t : Tab z s h A) (o : Only cs h h') (hz : z ∉ cs) (hs : s ∉ cs) : Tab z s h' A := by
  have e1 : ga h' z = ga h z := funext fun j => o.ga hz j
  have e2 : ga h' s = ga h s := funext fun j => o.ga hs j
  unfold Tab Hr Pr Nv
  rw [e1, e2]
  exact t
theorem SzQ.up {m n : Nat} {r : Rat} (a : SzQ m r) (h : m ≤ n) : SzQ n r := ⟨PW_up a.1 h, PW_up a.2 h⟩
theorem SzQ.add {m n : Nat} {a b : Rat} (ha : SzQ m a) (hb : SzQ n b) : SzQ (m + n + 1) (a + b) := by
  have a0 := a.den_pos
  have b0 := b.den_pos
  have q := divInt_sz (p := a.num * b.den + b.num * a.den) (q := (a.den : Int) * b.den) (Int.mul_pos (by omega) (by omega))
  rw [rat_add] at q
  have s1 := PW_mul ha.1 hb.2
  have s2 := PW_mul hb.1 ha.2
  rw [Nat.add_comm n m] at s2
  have s3 := PW_sum s1 s2
  have s4 := PW_up (PW_mul ha.2 hb.2) (Nat.le_succ (m + n))
  have e : (m + n).succ = m + n + 1 := rfl
  rw [e] at s4
  exact ⟨by omega, by omega⟩
theorem sz_zero : SzQ 1 0 := by
  have e : PW 1 = 16777216 := rfl
  have e1 : (0 : Rat).num = 0 := rfl
  have e2 : (0 : Rat).den = 1 := rfl
  unfold SzQ
  rw [e, e1, e2]
  exact ⟨by decide, by decide⟩
/-- what put makes of the table -/
def ptA (A : Int → Int → Rat) (a k w x t l e : Int) : Int → Int → Rat := adP (adP A a (fun j => tmQ t (coQ w x l e (j - 4 * k))) (4 * k) (4 * k + 4)) a (fun j => tmQ t (-(owQ w x l e (j - 12 - 5 * k)))) (13 + 5 * k) (16 + 5 * k)
theorem ptA_o {A : Int → Int → Rat} {a k w x t l e r j : Int} (h : r ≠ a) : ptA A a k w x t l e r j = A r j := by
  unfold ptA adP
  rw [if_neg (by omega), if_neg (by omega)]
theorem ptA_sz {A : Int → Int → Rat} {a k w x t l e : Int} {m : Nat} (hk : 0 ≤ k ∧ k < 3) (hx : 0 ≤ x ∧ x ≤ 4) (hl : 1 ≤ l ∧ l ≤ 12) (he : 1 ≤ e ∧ e ≤ 12) (b : ∀ j : Int, 0 ≤ j → j < 28 → SzQ m (A a j)) : ∀ j : Int, 0 ≤ j → j < 28 → SzQ (m + 2) (ptA A a k w x t l e a j) := fun j j0 j1 => by
  have bj := b j j0 j1
  unfold ptA
  by_cases q : 13 + 5 * k ≤ j ∧ j < 16 + 5 * k
  · have e1 : adP A a (fun j => tmQ t (coQ w x l e (j - 4 * k))) (4 * k) (4 * k + 4) a j = A a j := adP_o (Or.inr (by omega))
    generalize adP A a (fun j => tmQ t (coQ w x l e (j - 4 * k))) (4 * k) (4 * k + 4) = B at e1
    unfold adP
    rw [if_pos ⟨rfl, q.1, q.2⟩, e1]
    exact bj.add (owQ_sz hx ⟨by omega, by omega⟩ hl he).neg.tm
  · rw [adP_o (by omega)]
    by_cases q2 : 4 * k ≤ j ∧ j < 4 * k + 4
    · unfold adP
      rw [if_pos ⟨rfl, q2.1, q2.2⟩]
      exact bj.add (coQ_sz hx hl he).tm
    · rw [adP_o (by omega)]
      exact bj.up (by omega)
