/-! the table is solved: the steps of one column -/
def nm (A : Int → Int → Rat) : Mx := fun r x => A r x
theorem nm_ex {A : Int → Int → Rat} {a b : Nat} : nm (exA A a b) = exM (nm A) a b := by
  funext r x
  unfold nm exA exM
  by_cases e : r = a
  · rw [if_pos (by omega), if_pos e]
  · rw [if_neg (by omega), if_neg e]
    by_cases e2 : r = b
    · rw [if_pos (by omega), if_pos e2]
    · rw [if_neg (by omega), if_neg e2]
/-- row k is divided by its number in column c, as far as column i -/
def dvP (T : Int → Int → Rat) (k c i : Int) : Int → Int → Rat := fun r x => if r = k ∧ c ≤ x ∧ x < i then T k x / T k c else T r x
theorem dvP_o {T : Int → Int → Rat} {k c i r x : Int} (h : r ≠ k ∨ i ≤ x ∨ x < c) : dvP T k c i r x = T r x := if_neg (by omega)
theorem dvP_k {T : Int → Int → Rat} {k c i x : Int} (h : c ≤ x) (h2 : x < i) : dvP T k c i k x = T k x / T k c := if_pos ⟨rfl, h, h2⟩
theorem Tab.dvS {z s : Nat} {h : MH} {T : Int → Int → Rat} {k c : Int} (t : Tab z s h T) : Tab z s h (dvP T k c c) := t.congr fun r x _ _ _ _ => (if_neg (by omega)).symm
theorem Tab.dv {z s : Nat} {h : MH} {T : Int → Int → Rat} {k c i : Int} {v : Rat} (t : Tab z s h (stA (dvP T k c i) k i v)) (e : v = T k i / T k c) (hc : c ≤ i) : Tab z s h (dvP T k c (i + 1)) := t.congr fun r x _ _ _ _ => by
  unfold stA
  by_cases w : r = k ∧ x = i
  · rw [if_pos w, w.1, w.2, dvP_k hc (by omega), e]
  · rw [if_neg w]
    unfold dvP
    by_cases w2 : r = k ∧ c ≤ x ∧ x < i
    · rw [if_pos w2, if_pos (by omega)]
    · rw [if_neg w2, if_neg (by omega)]
theorem Tab.dv0 {z s : Nat} {h : MH} {T : Int → Int → Rat} {k c i : Int} (t : Tab z s h (dvP T k c i)) (hz : T k i = 0) : Tab z s h (dvP T k c (i + 1)) := t.congr fun r x _ _ _ _ => by
  unfold dvP
  by_cases w2 : r = k ∧ c ≤ x ∧ x < i
  · rw [if_pos w2, if_pos (by omega)]
  · rw [if_neg w2]
    by_cases w3 : r = k ∧ c ≤ x ∧ x < i + 1
    · have e : x = i := by omega
      rw [if_pos w3, e, hz, w3.1, hz, Rat.div_def, Rat.zero_mul]
    · rw [if_neg w3]
/-- of the rows before q, a multiple of row k is taken -/
def elP (T : Int → Int → Rat) (k c q : Int) : Int → Int → Rat := fun r x => if r < q ∧ r ≠ k ∧ c ≤ x then T r x - T k x * T r c else T r x
theorem elP_o {T : Int → Int → Rat} {k c q r x : Int} (h : r = k ∨ q ≤ r ∨ x < c) : elP T k c q r x = T r x := if_neg (by omega)
theorem elP_i {T : Int → Int → Rat} {k c q r x : Int} (h : r < q) (h2 : r ≠ k) (h3 : c ≤ x) : elP T k c q r x = T r x - T k x * T r c := if_pos ⟨h, h2, h3⟩
theorem Tab.elS {z s : Nat} {h : MH} {T : Int → Int → Rat} {k c : Int} (t : Tab z s h T) : Tab z s h (elP T k c 0) := t.congr fun r x _ _ _ _ => (if_neg (by omega)).symm
theorem Tab.el {z s : Nat} {h : MH} {T : Int → Int → Rat} {k c q : Int} (t : Tab z s h (tkA (elP T k c q) q k c)) (n : q ≠ k) : Tab z s h (elP T k c (q + 1)) := t.congr fun r x _ _ _ _ => by
  unfold tkA
  by_cases w : r = q ∧ c ≤ x
  · rw [if_pos w, elP_o (by omega), elP_o (Or.inl rfl), elP_o (by omega), elP_i (by omega) (by omega) w.2, w.1]
  · rw [if_neg w]
    unfold elP
    by_cases w2 : r < q ∧ r ≠ k ∧ c ≤ x
    · rw [if_pos w2, if_pos (by omega)]
    · rw [if_neg w2, if_neg (by omega)]
theorem Tab.el0 {z s : Nat} {h : MH} {T : Int → Int → Rat} {k c q : Int} (t : Tab z s h (elP T k c q)) (n : q = k ∨ T q c = 0) : Tab z s h (elP T k c (q + 1)) := t.congr fun r x _ _ _ _ => by
  unfold elP
  by_cases w2 : r < q ∧ r ≠ k ∧ c ≤ x
  · rw [if_pos w2, if_pos (by omega)]
  · rw [if_neg w2]
    by_cases w3 : r < q + 1 ∧ r ≠ k ∧ c ≤ x
    · have e : r = q := by omega
      have z0 : T q c = 0 := n.resolve_left (by omega)
      rw [if_pos w3, e, z0, Rat.mul_zero, Rat.sub_eq_add_neg, Rat.neg_zero, Rat.add_zero]
    · rw [if_neg w3]
theorem GJ.go {E : Nat} {B : Mx} {T : Int → Int → Rat} {p : Nat → Nat} {k c : Nat} (g : GJ E B (nm T) p k c) (hk : k < E) (hc : c < 28) (h0 : T k c ≠ 0) : GJ E B (nm (elP (dvP T k c 28) k c E)) (fun j => if j = k then c else p j) (k + 1) (c + 1) := by
  have tk : ∀ x : Nat, x < 28 → nm (elP (dvP T k c 28) k c E) k x = T k x / T k c := fun x hx => by
    show elP (dvP T k c 28) k c E (k : Int) (x : Int) = _
    rw [elP_o (Or.inl rfl)]
    by_cases w : c ≤ x
    · exact dvP_k (by omega) (by omega)
    · have z := g.zr k x (Nat.le_refl _) hk (by omega)
      have z2 : T (k : Int) (x : Int) = 0 := z
      rw [dvP_o (by omega), z2, Rat.div_def, Rat.zero_mul]
  refine g.step hk hc h0 tk fun r x hr hn hx => ?_
  show elP (dvP T k c 28) k c E (r : Int) (x : Int) = T r x - nm (elP (dvP T k c 28) k c E) k x * T r c
  by_cases w : c ≤ x
  · rw [elP_i (by omega) (by omega) (by omega), dvP_o (r := (r : Int)) (x := (x : Int)) (by omega), dvP_o (r := (r : Int)) (x := (c : Int)) (by omega), dvP_k (by omega) (by omega), tk x hx]
  · have z := g.zr k x (Nat.le_refl _) hk (by omega)
    have z2 : T (k : Int) (x : Int) = 0 := z
    rw [elP_o (by omega), dvP_o (by omega), tk x hx, z2, Rat.div_def, Rat.zero_mul, Rat.zero_mul, Rat.sub_eq_add_neg, Rat.neg_zero, Rat.add_zero]
/-- how many equations there are, node by node, and how large their numbers -/
def OM : Rat := 6 * 137479680 * 137479680 * 1645056
def PL (n M E : Int) (O : Rat) : Prop := (n = 0 ∧ E = 0 ∧ O = 1) ∨ (n = 1 ∧ n ≤ M ∧ E = 2 ∧ O = 6) ∨ (n = 2 ∧ n ≤ M ∧ E = 6 ∧ O = 6 * 137479680) ∨ (n = 3 ∧ n ≤ M ∧ E = 10 ∧ O = 6 * 137479680 * 137479680) ∨ (n = M + 1 ∧ E = 4 * M ∧ O = OM)
theorem node_plan {n M E : Int} {O : Rat} (h : n ≤ M) (hM : 1 ≤ M ∧ M ≤ 3) (c : PL n M E O) : ∃ (e1 : Int) (O1 : Rat) (e2 : Int) (O2 : Rat), ((0 < n ∧ n < M ∧ e1 = E + 2) ∨ (¬(0 < n ∧ n < M) ∧ e1 = E + 1)) ∧ (n = 0 → O * 3 ≤ O1) ∧ (0 < n → n < M → O * 14688 ≤ O1) ∧ (n = M → O * 4896 ≤ O1) ∧ ((0 < n ∧ n < M ∧ e2 = e1 + 2) ∨ (¬(0 < n ∧ n < M) ∧ e2 = e1 + 1)) ∧ (n = 0 → O1 * 2 ≤ O2) ∧ (0 < n → n < M → O1 * 9360 ≤ O2) ∧ (n = M → O1 * 336 ≤ O2) ∧ E < 12 ∧ (0 < n → n < M → E < 11) ∧ e1 < 12 ∧ (0 < n → n < M → e1 < 11) ∧ PL (n + 1) M e2 O2 := by
  have mid : ∀ e : Int, 0 < n → n < M → E = e → e + 4 ≤ 12 → PL (n + 1) M (e + 4) (O * 14688 * 9360) → ∃ (e1 : Int) (O1 : Rat) (e2 : Int) (O2 : Rat), ((0 < n ∧ n < M ∧ e1 = E + 2) ∨ (¬(0 < n ∧ n < M) ∧ e1 = E + 1)) ∧ (n = 0 → O * 3 ≤ O1) ∧ (0 < n → n < M → O * 14688 ≤ O1) ∧ (n = M → O * 4896 ≤ O1) ∧ ((0 < n ∧ n < M ∧ e2 = e1 + 2) ∨ (¬(0 < n ∧ n < M) ∧ e2 = e1 + 1)) ∧ (n = 0 → O1 * 2 ≤ O2) ∧ (0 < n → n < M → O1 * 9360 ≤ O2) ∧ (n = M → O1 * 336 ≤ O2) ∧ E < 12 ∧ (0 < n → n < M → E < 11) ∧ e1 < 12 ∧ (0 < n → n < M → e1 < 11) ∧ PL (n + 1) M e2 O2 := fun e a b q w p =>
    ⟨e + 2, O * 14688, e + 4, O * 14688 * 9360, Or.inl ⟨a, b, by omega⟩, fun i => by omega, fun _ _ => Rat.le_refl, fun i => by omega, Or.inl ⟨a, b, by omega⟩, fun i => by omega, fun _ _ => Rat.le_refl, fun i => by omega, by omega, fun _ _ => by omega, by omega, fun _ _ => by omega, p⟩
  have las : ∀ e : Int, 0 < n → n = M → E = e → e + 2 = 4 * M → O * 4896 * 336 ≤ OM → ∃ (e1 : Int) (O1 : Rat) (e2 : Int) (O2 : Rat), ((0 < n ∧ n < M ∧ e1 = E + 2) ∨ (¬(0 < n ∧ n < M) ∧ e1 = E + 1)) ∧ (n = 0 → O * 3 ≤ O1) ∧ (0 < n → n < M → O * 14688 ≤ O1) ∧ (n = M → O * 4896 ≤ O1) ∧ ((0 < n ∧ n < M ∧ e2 = e1 + 2) ∨ (¬(0 < n ∧ n < M) ∧ e2 = e1 + 1)) ∧ (n = 0 → O1 * 2 ≤ O2) ∧ (0 < n → n < M → O1 * 9360 ≤ O2) ∧ (n = M → O1 * 336 ≤ O2) ∧ E < 12 ∧ (0 < n → n < M → E < 11) ∧ e1 < 12 ∧ (0 < n → n < M → e1 < 11) ∧ PL (n + 1) M e2 O2 := fun e a b q w p =>
    ⟨e + 1, O * 4896, e + 2, OM, Or.inr ⟨by omega, by omega⟩, fun i => by omega, fun _ i => by omega, fun _ => Rat.le_refl, Or.inr ⟨by omega, by omega⟩, fun i => by omega, fun _ i => by omega, fun _ => p, by omega, fun _ i => by omega, by omega, fun _ i => by omega, Or.inr (Or.inr (Or.inr (Or.inr ⟨by omega, w, rfl⟩)))⟩
  rcases c with ⟨a, b, d⟩ | ⟨a, q, b, d⟩ | ⟨a, q, b, d⟩ | ⟨a, q, b, d⟩ | ⟨a, b, d⟩
  · exact ⟨1, 3, 2, 6, Or.inr ⟨by omega, by omega⟩, fun _ => by rw [d]; decide +kernel, fun i => by omega, fun i => by omega, Or.inr ⟨by omega, by omega⟩, fun _ => by decide +kernel, fun i => by omega, fun i => by omega, by omega, fun i => by omega, by omega, fun i => by omega, Or.inr (Or.inl ⟨by omega, by omega, rfl, rfl⟩)⟩
  · by_cases w : n = M
    · exact las 2 (by omega) w b (by omega) (by rw [d]; decide +kernel)
    · exact mid 2 (by omega) (by omega) b (by omega) (Or.inr (Or.inr (Or.inl ⟨by omega, by omega, by omega, by rw [d]; decide +kernel⟩)))
  · by_cases w : n = M
    · exact las 6 (by omega) w b (by omega) (by rw [d]; decide +kernel)
    · exact mid 6 (by omega) (by omega) b (by omega) (Or.inr (Or.inr (Or.inr (Or.inl ⟨by omega, by omega, by omega, by rw [d]; decide +kernel⟩))))
  · by_cases w : n = M
    · exact las 10 (by omega) w b (by omega) (by rw [d]; decide +kernel)
    · omega
  · omega
theorem Prt.none : Prt (fun _ _ => 0) 0 1 zP oQ := Prt.mk
  (Int.le_refl 0)
  (⟨fun _ => 1, fun _ => 1, fun r hr => by omega, Rat.le_refl⟩)
  (fun _ j _ _ => ⟨oQ_b _, zP_b _, (Rat.zero_divInt 1).symm⟩)
  (fun _ _ _ _ _ _ => rfl)
theorem Tab.zero {z s : Nat} {h : MH} (v : ∀ i : Int, 0 ≤ i → i < 336 → Nv 70 z s h i 0 ∧ Nv 70 z s h (336 + i) 1) : Tab z s h (fun _ _ => 0) := fun r x r0 r1 x0 x1 => ⟨(v (28 * r + x) (by omega) (by omega)).1, (v (28 * r + x) (by omega) (by omega)).2, (show (0 : Int) < ((0 : Rat).den : Int) by
  have := Rat.den_pos (0 : Rat)
  omega)⟩
/-- the table stands solved as far as column c: k pivots -/
def Gs (E : Nat) (T : Int → Int → Rat) (k c : Nat) : Prop := ∃ (B : Mx) (p : Nat → Nat) (f w : Nat → Rat), GJ E B (nm T) p k c ∧ (∀ r, r < E → RW (B r) (f r) (w r)) ∧ prN E w ≤ OM
theorem PW12 : 64 * (prN 12 (fun _ => gx 27) * OM) < ((PW 12 : Int) : Rat) := by decide +kernel
theorem Gs.size {E : Nat} {T : Int → Int → Rat} {k c : Nat} (g : Gs E T k c) (hc : c ≤ 12) (hE : E ≤ 12) {a x : Int} (ha : 0 ≤ a) (ha2 : a < E) (hx : 0 ≤ x) (hx2 : x < 28) : SzQ 12 (T a x) := by
  obtain ⟨B, p, f, w, g1, g2, g3⟩ := g
  have s := g1.size hc hE g2 g3 PW12 (a := a.toNat) (x := x.toNat) (by omega) (by omega)
  have e : nm T a.toNat x.toNat = T a x := by
    show T (a.toNat : Int) (x.toNat : Int) = T a x
    rw [show (a.toNat : Int) = a by omega, show (x.toNat : Int) = x by omega]
  rw [e] at s
  exact s
theorem Gs.start {A : Int → Int → Rat} {e : Int} {P Q : Int → Int} (p : Prt A e OM P Q) : Gs e.toNat A 0 0 := by
  obtain ⟨f, w, h, b⟩ := p.rows
  have := p.e0
  exact ⟨nm A, fun j => j, f, w, GJ.start, fun r hr => h r (by omega), b⟩
theorem Gs.skip {E : Nat} {T : Int → Int → Rat} {k c : Nat} (g : Gs E T k c) (z : ∀ r : Int, (k : Int) ≤ r → r < E → T r c = 0) : Gs E T k (c + 1) := by
  obtain ⟨B, p, f, w, g1, g2, g3⟩ := g
  exact ⟨B, p, f, w, g1.skip fun r h1 h2 => z r (by omega) (by omega), g2, g3⟩
theorem Gs.ex {E : Nat} {T : Int → Int → Rat} {k c : Nat} {a : Int} (g : Gs E T k c) (h1 : (k : Int) ≤ a) (h2 : a < E) : Gs E (exA T a k) k c := by
  obtain ⟨B, p, f, w, g1, g2, g3⟩ := g
  obtain ⟨q, e⟩ : ∃ q : Nat, a = (q : Int) := ⟨a.toNat, by omega⟩
  subst e
  have x := g1.ex (a := q) (b := k) (by omega) (by omega) (Nat.le_refl k) (by omega)
  rw [← nm_ex] at x
  refine ⟨_, p, fun r => if r = q then f k else if r = k then f q else f r, fun r => if r = q then w k else if r = k then w q else w r, x, fun r hr => ?_, ?_⟩
  · show RW (exM B q k r) (if r = q then f k else if r = k then f q else f r) (if r = q then w k else if r = k then w q else w r)
    by_cases e1 : r = q
    · rw [if_pos e1, if_pos e1, e1]
      have e9 : exM B q k q = B k := funext fun y => exM_a
      rw [e9]
      exact g2 k (by omega)
    · rw [if_neg e1, if_neg e1]
      by_cases e2 : r = k
      · rw [if_pos e2, if_pos e2, e2]
        have e9 : exM B q k k = B q := funext fun y => exM_b
        rw [e9]
        exact g2 q (by omega)
      · rw [if_neg e2, if_neg e2]
        have e9 : exM B q k r = B r := funext fun y => exM_o e1 e2
        rw [e9]
        exact g2 r hr
  · rw [prN_swap (f := w) (a := q) (b := k) (by omega) (by omega) (if_pos rfl) (by
      by_cases e1 : k = q
      · rw [if_pos e1, e1]
      · rw [if_neg e1, if_pos rfl]) fun r _ r1 r2 => by rw [if_neg r1, if_neg r2]]
    exact g3
theorem Gs.go {E : Nat} {T : Int → Int → Rat} {k c : Nat} (g : Gs E T k c) (hk : k < E) (hc : c < 28) (h0 : T k c ≠ 0) : Gs E (elP (dvP T k c 28) k c E) (k + 1) (c + 1) := by
  obtain ⟨B, p, f, w, g1, g2, g3⟩ := g
  exact ⟨B, _, f, w, g1.go hk hc h0, g2, g3⟩
theorem Gs.le {E : Nat} {T : Int → Int → Rat} {k c : Nat} (g : Gs E T k c) : k ≤ E ∧ k ≤ c := by
  obtain ⟨B, p, f, w, g1, g2, g3⟩ := g
  exact ⟨g1.kE, g1.kc⟩
theorem Gs.skipI {e c : Int} {T : Int → Int → Rat} {k : Nat} (g : Gs e.toNat T k c.toNat) (c0 : 0 ≤ c) (z : ∀ r : Int, (k : Int) ≤ r → r < e → T r c = 0) : Gs e.toNat T k (c + 1).toNat := by
  rw [show (c + 1).toNat = c.toNat + 1 by omega]
  refine g.skip fun r h1 h2 => ?_
  rw [show ((c.toNat : Nat) : Int) = c by omega]
  exact z r h1 (by omega)
theorem Gs.goI {e c rk : Int} {T : Int → Int → Rat} {k : Nat} (g : Gs e.toNat T k c.toNat) (c0 : 0 ≤ c) (c1 : c < 28) (hr : rk = k) (he : rk < e) (n : T rk c ≠ 0) : Gs e.toNat (elP (dvP T rk c 28) rk c e) (k + 1) (c + 1).toNat := by
  subst hr
  have ec : ((c.toNat : Nat) : Int) = c := by omega
  have ee : ((e.toNat : Nat) : Int) = e := by omega
  have x := g.go (by omega) (by omega) (by rw [ec]; exact n)
  rw [ec, ee] at x
  rw [show (c + 1).toNat = c.toNat + 1 by omega]
  exact x
theorem exA_b {A : Int → Int → Rat} {a b k : Int} : exA A a b b k = A a k := by
  unfold exA
  by_cases q : b = a
  · rw [if_pos q, q]
  · rw [if_neg q, if_pos rfl]
/-- what is kept while the table is solved -/
def Kf (z s ob tl : Nat) (h0 h : MH) (E R : Int) : Prop := Only [z, s, ob, tl] h0 h ∧ (∀ j : Int, 0 ≤ j → j ≠ 16 → j ≠ 17 → j ≠ 18 → ga h ob j = ga h0 ob j) ∧ ga h ob 17 = E ∧ ga h ob 18 = R ∧ ga h ob 16 = 1
theorem Kf.only {z s ob tl : Nat} {h0 h h' : MH} {E R : Int} {cs : List Nat} (f : Kf z s ob tl h0 h E R) (o : Only cs h h') (m : ∀ c ∈ cs, c ∈ [z, s, ob, tl]) (n : ob ∉ cs) : Kf z s ob tl h0 h' E R := ⟨f.1.trans (o.mono m), fun j a b c d => (o.ga n j).trans (f.2.1 j a b c d), (o.ga n _).trans f.2.2.1, (o.ga n _).trans f.2.2.2.1, (o.ga n _).trans f.2.2.2.2⟩
/-- the places of the pivots, for the columns before c -/
def TB (h : MH) (tl : Nat) (rk c : Int) : Prop := (∀ j : Int, 0 ≤ j → j < c → ga h tl j = -1 ∨ (0 ≤ ga h tl j ∧ ga h tl j < rk)) ∧ (rk = c → ∀ j : Int, 0 ≤ j → j < c → ga h tl j ≠ -1)
theorem TB.only {h h' : MH} {tl : Nat} {rk c : Int} {cs : List Nat} (t : TB h tl rk c) (o : Only cs h h') (n : tl ∉ cs) : TB h' tl rk c := by
  have e : ga h' tl = ga h tl := funext fun j => o.ga n j
  unfold TB
  rw [e]
  exact t
theorem TB.zero (h : MH) (tl : Nat) : TB h tl 0 0 := ⟨fun j a b => by omega, fun _ j a b => by omega⟩
def TL (h : MH) (tl : Nat) (rk c tv : Int) : Prop := TB h tl rk c ∧ ga h tl c = tv
theorem TL.only {h h' : MH} {tl : Nat} {rk c tv : Int} {cs : List Nat} (t : TL h tl rk c tv) (o : Only cs h h') (n : tl ∉ cs) : TL h' tl rk c tv := ⟨t.1.only o n, (o.ga n _).trans t.2⟩
theorem TB.set {h : MH} {tl : Nat} {rk c tv : Int} (t : TB h tl rk c) (c0 : 0 ≤ c) : TL (sa h tl c tv) tl rk c tv := by
  have w : ∀ j : Int, 0 ≤ j → j < c → ga (sa h tl c tv) tl j = ga h tl j := fun j a b => (ga_sa _ _ _ c0 a).trans (if_neg (by omega))
  refine ⟨⟨fun j a b => ?_, fun q j a b => ?_⟩, (ga_sa _ _ _ c0 c0).trans (if_pos rfl)⟩
  · rw [w j a b]
    exact t.1 j a b
  · rw [w j a b]
    exact t.2 q j a b
theorem TL.bad {h : MH} {tl : Nat} {rk c tv : Int} (t : TL h tl rk c tv) (e : tv = -1) (l : rk ≤ c) : TB h tl rk (c + 1) := ⟨fun j a b => by
  by_cases q : j = c
  · rw [q, t.2]
    exact Or.inl e
  · exact t.1.1 j a (by omega), fun q => by omega⟩
theorem TL.good {h : MH} {tl : Nat} {rk c tv : Int} (t : TL h tl rk c tv) (e : tv = rk) (l : 0 ≤ rk) : TB h tl (rk + 1) (c + 1) := ⟨fun j a b => by
  by_cases q : j = c
  · rw [q, t.2]
    omega
  · have := t.1.1 j a (by omega)
    omega, fun q j a b => by
  by_cases w : j = c
  · rw [w, t.2]
    omega
  · exact t.1.2 (by omega) j a (by omega)⟩
/-- the table is solved -/
def Sv (z s ob tl : Nat) (h : MH) (M : Int) : Prop := ∃ (T : Int → Int → Rat) (k : Nat), Tab z s h T ∧ Gs (4 * M).toNat T k (4 * M).toNat ∧ ga h ob 18 = (k : Int) ∧ TB h tl k (4 * M)
