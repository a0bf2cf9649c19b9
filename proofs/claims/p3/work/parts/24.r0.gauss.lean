/-! Gauss and Jordan: what the table holds after k pivots, by determinants of the first matrix, its rows in the table's order -/
theorem one_mul_le {x y : Rat} (hx : 1 ≤ x) (hy : 1 ≤ y) : 1 ≤ x * y := by
  have c := Rat.mul_le_mul_of_nonneg_left hy (show (0 : Rat) ≤ x by grind)
  grind
theorem le_mul_one {x y : Rat} (hx : 0 ≤ x) (hy : 1 ≤ y) : x ≤ x * y := by
  have c := Rat.mul_le_mul_of_nonneg_left hy hx
  grind
theorem mul_le_mul2 {a b c d : Rat} (ha : 0 ≤ a) (hab : a ≤ b) (hc : 0 ≤ c) (hcd : c ≤ d) : a * c ≤ b * d := by
  have x := Rat.mul_le_mul_of_nonneg_left hcd ha
  have y := Rat.mul_le_mul_of_nonneg_left hab (show (0 : Rat) ≤ d by grind)
  grind
theorem prN_pos {f : Nat → Rat} : ∀ n : Nat, (∀ r, r < n → 1 ≤ f r) → 1 ≤ prN n f
  | 0, _ => Rat.le_refl
  | n + 1, h => one_mul_le (prN_pos n (fun r hr => h r (by omega))) (h n (by omega))
theorem prN_nn {f : Nat → Rat} : ∀ n : Nat, (∀ r, r < n → 0 ≤ f r) → 0 ≤ prN n f
  | 0, _ => by
    show (0 : Rat) ≤ 1
    grind
  | n + 1, h => Rat.mul_nonneg (prN_nn n (fun r hr => h r (by omega))) (h n (by omega))
theorem prN_gt {f : Nat → Rat} : ∀ n : Nat, (∀ r, r < n → 0 < f r) → 0 < prN n f
  | 0, _ => by
    show (0 : Rat) < 1
    grind
  | n + 1, h => Rat.mul_pos (prN_gt n (fun r hr => h r (by omega))) (h n (by omega))
theorem prN_le {f g : Nat → Rat} : ∀ n : Nat, (∀ r, r < n → 0 ≤ f r) → (∀ r, r < n → f r ≤ g r) → prN n f ≤ prN n g
  | 0, _, _ => Rat.le_refl
  | n + 1, h, w => mul_le_mul2 (prN_nn n (fun r hr => h r (by omega))) (prN_le n (fun r hr => h r (by omega)) (fun r hr => w r (by omega))) (h n (by omega)) (w n (by omega))
theorem prN_mono {f : Nat → Rat} {k : Nat} : ∀ n : Nat, k ≤ n → (∀ r, r < n → 1 ≤ f r) → prN k f ≤ prN n f
  | 0, h, _ => by
    have e : k = 0 := by omega
    subst e
    exact Rat.le_refl
  | n + 1, h, w => by
    by_cases q : k = n + 1
    · rw [q]
      exact Rat.le_refl
    · have a := prN_mono (k := k) n (by omega) (fun r hr => w r (by omega))
      have b := prN_pos n (fun r hr => w r (by omega))
      exact Rat.le_trans a (le_mul_one (by grind) (w n (by omega)))
theorem prN_one {f : Nat → Rat} {k r n : Nat} (h : k ≤ r) (hr : r < n) (w : ∀ r, r < n → 1 ≤ f r) : prN k f * f r ≤ prN n f := by
  have a := prN_mono (k := k) (f := f) r h (fun q hq => w q (by omega))
  have c := prN_mono (k := r + 1) (f := f) n (by omega) w
  have m := Rat.mul_le_mul_of_nonneg_right a (show (0 : Rat) ≤ f r by
    have := w r hr
    grind)
  exact Rat.le_trans m c
theorem prN_mul {f g : Nat → Rat} : ∀ n : Nat, prN n (fun r => f r * g r) = prN n f * prN n g
  | 0 => (Rat.mul_one 1).symm
  | n + 1 => by
    show prN n (fun r => f r * g r) * (f n * g n) = prN n f * f n * (prN n g * g n)
    rw [prN_mul n]
    grind
theorem prN_congr {f g : Nat → Rat} : ∀ n : Nat, (∀ r, r < n → f r = g r) → prN n f = prN n g
  | 0, _ => rfl
  | n + 1, h => by
    show prN n f * f n = prN n g * g n
    rw [prN_congr n (fun r hr => h r (by omega)), h n (by omega)]
theorem prN_out {f : Nat → Rat} {a : Nat} : ∀ n : Nat, a < n → prN n f = f a * prN n (fun r => if r = a then 1 else f r)
  | 0, h => absurd h (by omega)
  | n + 1, h => by
    show prN n f * f n = f a * (prN n (fun r => if r = a then 1 else f r) * (if n = a then 1 else f n))
    by_cases q : n = a
    · subst q
      have e : prN n (fun r => if r = n then 1 else f r) = prN n f := prN_congr n fun r hr => if_neg (by omega)
      rw [if_pos rfl, e]
      grind
    · have e := prN_out (f := f) (a := a) n (by omega)
      rw [if_neg q]
      grind
theorem prN_swap {f g : Nat → Rat} {a b n : Nat} (ha : a < n) (hb : b < n) (e1 : g a = f b) (e2 : g b = f a) (go : ∀ r, r < n → r ≠ a → r ≠ b → g r = f r) : prN n g = prN n f := by
  by_cases q : a = b
  · subst q
    exact prN_congr n fun r hr => by
      by_cases e : r = a
      · rw [e, e1]
      · exact go r hr e e
  · have p1 := prN_out (f := g) n ha
    have p2 : prN n (fun r => if r = a then 1 else g r) = g b * prN n (fun r => if r = b then 1 else if r = a then 1 else g r) :=
      (prN_out (f := fun r => if r = a then 1 else g r) n hb).trans (by
        show (if b = a then (1 : Rat) else g b) * _ = _
        rw [if_neg (Ne.symm q)])
    have p3 := prN_out (f := f) n ha
    have p4 : prN n (fun r => if r = a then 1 else f r) = f b * prN n (fun r => if r = b then 1 else if r = a then 1 else f r) :=
      (prN_out (f := fun r => if r = a then 1 else f r) n hb).trans (by
        show (if b = a then (1 : Rat) else f b) * _ = _
        rw [if_neg (Ne.symm q)])
    have p5 : prN n (fun r => if r = b then 1 else if r = a then 1 else g r) = prN n (fun r => if r = b then 1 else if r = a then 1 else f r) := prN_congr n fun r hr => by
      by_cases w : r = b
      · rw [if_pos w, if_pos w]
      · rw [if_neg w, if_neg w]
        by_cases w2 : r = a
        · rw [if_pos w2, if_pos w2]
        · rw [if_neg w2, if_neg w2]
          exact go r hr w2 w
    rw [p1, p2, p3, p4, p5, e1, e2]
    grind
theorem det_scale {f : Nat → Rat} : ∀ (n : Nat) (M : Mx), det n (fun r c => f r * M r c) = prN n f * det n M
  | 0, _ => (Rat.mul_one 1).symm
  | n + 1, M => by
    have e : ∀ j, det n (cut (fun r c => f r * M r c) j) = prN n f * det n (cut M j) := fun j => det_scale n (cut M j)
    have e2 : sumN (n + 1) (fun j => sg (n + j) * (f n * M n j) * det n (cut (fun r c => f r * M r c) j)) = sumN (n + 1) (fun j => (prN n f * f n) * (sg (n + j) * M n j * det n (cut M j))) := sumN_congr _ fun j _ => by
      rw [e j]
      grind
    rw [det_s, det_s]
    show sumN (n + 1) (fun j => sg (n + j) * (f n * M n j) * det n (cut (fun r c => f r * M r c) j)) = prN n f * f n * _
    rw [e2, sumN_mul]
theorem sumN_nn {f : Nat → Rat} : ∀ n : Nat, (∀ j, j < n → 0 ≤ f j) → 0 ≤ sumN n f
  | 0, _ => Rat.le_refl
  | n + 1, h => Rat.add_nonneg (sumN_nn n fun j hj => h j (by omega)) (h n (by omega))
theorem sumN_up {g : Nat → Rat} {k : Nat} (g0 : ∀ j, 0 ≤ g j) : ∀ n : Nat, k ≤ n → sumN k g ≤ sumN n g
  | 0, h => by
    have e : k = 0 := by omega
    subst e
    exact Rat.le_refl
  | n + 1, h => by
    by_cases q : k = n + 1
    · rw [q]
      exact Rat.le_refl
    · have a := sumN_up g0 n (k := k) (by omega)
      have b := g0 n
      show _ ≤ sumN n g + g n
      grind
/-- numbers at growing places make no more than all -/
theorem sumN_pick {g : Nat → Rat} {p : Nat → Nat} (g0 : ∀ j, 0 ≤ g j) : ∀ k n : Nat, (∀ i j, i < j → j < k → p i < p j) → (∀ j, j < k → p j < n) → sumN k (fun j => g (p j)) ≤ sumN n g
  | 0, n, _, _ => sumN_nn n fun j _ => g0 j
  | k + 1, n, h, b => by
    have a := sumN_pick g0 k (p k) (fun i j hi hj => h i j hi (by omega)) (fun j hj => h j k hj (by omega))
    have c := sumN_up g0 n (k := p k + 1) (b k (by omega))
    have e : sumN (p k + 1) g = sumN (p k) g + g (p k) := rfl
    show sumN k (fun j => g (p j)) + g (p k) ≤ _
    rw [e] at c
    grind
/-- one of them is another number -/
theorem sumN_rep {h : Nat → Rat} {a k : Nat} {v : Rat} (ha : a < k) (h0 : ∀ j, 0 ≤ h j) : sumN k (fun j => if j = a then v else h j) ≤ sumN k h + (if v < 0 then 0 else v) := by
  have e : sumN k (fun j => if j = a then (if v < 0 then 0 else v) else (0 : Rat)) = (if v < 0 then 0 else v) := (sumN_one k ha fun j _ hn => if_neg hn).trans (if_pos rfl)
  rw [← e, ← sumN_add]
  refine sumN_le k fun j _ => ?_
  have := h0 j
  show (if j = a then v else h j) ≤ h j + (if j = a then (if v < 0 then 0 else v) else 0)
  by_cases q : j = a
  · rw [if_pos q, if_pos q]
    split <;> grind
  · rw [if_neg q, if_neg q]
    grind
/-- after k pivots, columns below c done -/
def GJ (E : Nat) (B T : Mx) (p : Nat → Nat) (k c : Nat) : Prop := (k ≤ E) ∧ (k ≤ c) ∧ (∀ i j, i < j → j < k → p i < p j) ∧ (∀ j, j < k → p j < c) ∧ (∀ r x, r < E → x < 28 → B r x = sumN k (fun i => B r (p i) * T i x) + (if r < k then 0 else T r x)) ∧ (∀ r x, k ≤ r → r < E → x < c → T r x = 0) ∧ (det k (fun i j => B i (p j)) ≠ 0)
theorem GJ.kE {E : Nat} {B T : Mx} {p : Nat → Nat} {k c : Nat} (h : GJ E B T p k c) : k ≤ E := h.1
theorem GJ.kc {E : Nat} {B T : Mx} {p : Nat → Nat} {k c : Nat} (h : GJ E B T p k c) : k ≤ c := h.2.1
theorem GJ.up {E : Nat} {B T : Mx} {p : Nat → Nat} {k c : Nat} (h : GJ E B T p k c) : ∀ i j, i < j → j < k → p i < p j := h.2.2.1
theorem GJ.pc {E : Nat} {B T : Mx} {p : Nat → Nat} {k c : Nat} (h : GJ E B T p k c) : ∀ j, j < k → p j < c := h.2.2.2.1
theorem GJ.eq {E : Nat} {B T : Mx} {p : Nat → Nat} {k c : Nat} (h : GJ E B T p k c) : ∀ r x, r < E → x < 28 → B r x = sumN k (fun i => B r (p i) * T i x) + (if r < k then 0 else T r x) := h.2.2.2.2.1
theorem GJ.zr {E : Nat} {B T : Mx} {p : Nat → Nat} {k c : Nat} (h : GJ E B T p k c) : ∀ r x, k ≤ r → r < E → x < c → T r x = 0 := h.2.2.2.2.2.1
theorem GJ.nz {E : Nat} {B T : Mx} {p : Nat → Nat} {k c : Nat} (h : GJ E B T p k c) : det k (fun i j => B i (p j)) ≠ 0 := h.2.2.2.2.2.2
theorem GJ.mk {E : Nat} {B T : Mx} {p : Nat → Nat} {k c : Nat} (hkE : k ≤ E) (hkc : k ≤ c) (hup : ∀ i j, i < j → j < k → p i < p j) (hpc : ∀ j, j < k → p j < c) (heq : ∀ r x, r < E → x < 28 → B r x = sumN k (fun i => B r (p i) * T i x) + (if r < k then 0 else T r x)) (hzr : ∀ r x, k ≤ r → r < E → x < c → T r x = 0) (hnz : det k (fun i j => B i (p j)) ≠ 0) : GJ E B T p k c := ⟨hkE, hkc, hup, hpc, heq, hzr, hnz⟩
theorem GJ.start {E : Nat} {B : Mx} {p : Nat → Nat} : GJ E B B p 0 0 := GJ.mk
  (Nat.zero_le _)
  (Nat.le_refl _)
  (fun _ _ _ h => absurd h (Nat.not_lt_zero _))
  (fun _ h => absurd h (Nat.not_lt_zero _))
  (fun r x _ _ => by
    show B r x = 0 + (if r < 0 then 0 else B r x)
    rw [if_neg (Nat.not_lt_zero _), Rat.zero_add])
  (fun _ _ _ _ h => absurd h (Nat.not_lt_zero _))
  (by
    show (1 : Rat) ≠ 0
    decide)
theorem GJ.skip {E : Nat} {B T : Mx} {p : Nat → Nat} {k c : Nat} (g : GJ E B T p k c) (z : ∀ r, k ≤ r → r < E → T r c = 0) : GJ E B T p k (c + 1) := GJ.mk
  (g.kE)
  (Nat.le_succ_of_le g.kc)
  (g.up)
  (fun j hj => Nat.lt_succ_of_lt (g.pc j hj))
  (g.eq)
  (fun r x h1 h2 h3 => by
    by_cases q : x = c
    · rw [q]
      exact z r h1 h2
    · exact g.zr r x h1 h2 (by omega))
  (g.nz)
/-- two rows change places -/
def exM (A : Mx) (a b : Nat) : Mx := fun r x => if r = a then A b x else if r = b then A a x else A r x
theorem exM_a {A : Mx} {a b x : Nat} : exM A a b a x = A b x := if_pos rfl
theorem exM_b {A : Mx} {a b x : Nat} : exM A a b b x = A a x := by
  unfold exM
  by_cases q : b = a
  · rw [if_pos q, q]
  · rw [if_neg q, if_pos rfl]
theorem exM_o {A : Mx} {a b r x : Nat} (h : r ≠ a) (h2 : r ≠ b) : exM A a b r x = A r x := by
  unfold exM
  rw [if_neg h, if_neg h2]
theorem GJ.ex {E : Nat} {B T : Mx} {p : Nat → Nat} {k c a b : Nat} (g : GJ E B T p k c) (ha : k ≤ a) (ha2 : a < E) (hb : k ≤ b) (hb2 : b < E) : GJ E (exM B a b) (exM T a b) p k c := GJ.mk
  (g.kE)
  (g.kc)
  (g.up)
  (g.pc)
  (fun r x hr hx => by
    have key : ∀ q : Nat, sumN k (fun i => B q (p i) * exM T a b i x) = sumN k (fun i => B q (p i) * T i x) := fun q => sumN_congr k fun i hi => by rw [exM_o (by omega) (by omega)]
    by_cases q : r = a
    · subst q
      rw [exM_a, exM_a, if_neg (by omega)]
      have w : sumN k (fun i => exM B r b r (p i) * exM T r b i x) = sumN k (fun i => B b (p i) * exM T r b i x) := sumN_congr k fun i _ => by rw [exM_a]
      have z := g.eq b x hb2 hx
      rw [if_neg (by omega)] at z
      rw [w, key, z]
    · by_cases q2 : r = b
      · subst q2
        rw [exM_b, exM_b, if_neg (by omega)]
        have w : sumN k (fun i => exM B a r r (p i) * exM T a r i x) = sumN k (fun i => B a (p i) * exM T a r i x) := sumN_congr k fun i _ => by rw [exM_b]
        have z := g.eq a x ha2 hx
        rw [if_neg (by omega)] at z
        rw [w, key, z]
      · rw [exM_o q q2, exM_o q q2]
        have w : sumN k (fun i => exM B a b r (p i) * exM T a b i x) = sumN k (fun i => B r (p i) * exM T a b i x) := sumN_congr k fun i _ => by rw [exM_o q q2]
        rw [w, key]
        exact g.eq r x hr hx)
  (fun r x h1 h2 h3 => by
    by_cases q : r = a
    · rw [q, exM_a]
      exact g.zr b x hb hb2 h3
    · by_cases q2 : r = b
      · rw [q2, exM_b]
        exact g.zr a x ha ha2 h3
      · rw [exM_o q q2]
        exact g.zr r x h1 h2 h3)
  (by
    have e : det k (fun i j => exM B a b i (p j)) = det k (fun i j => B i (p j)) := det_congr k fun i j hi _ => exM_o (by omega) (by omega)
    rw [e]
    exact g.nz)
/-- a pivot: its row is divided, a multiple of it goes from every other one -/
theorem GJ.step {E : Nat} {B T T' : Mx} {p : Nat → Nat} {k c : Nat} (g : GJ E B T p k c) (hk : k < E) (hc : c < 28) (h0 : T k c ≠ 0) (t1 : ∀ x, x < 28 → T' k x = T k x / T k c) (t2 : ∀ r x, r < E → r ≠ k → x < 28 → T' r x = T r x - T' k x * T r c) : GJ E B T' (fun j => if j = k then c else p j) (k + 1) (c + 1) := GJ.mk
  (hk)
  (Nat.succ_le_succ g.kc)
  (fun i j hi hj => by
    show (if i = k then c else p i) < (if j = k then c else p j)
    rw [if_neg (by omega)]
    by_cases q : j = k
    · rw [if_pos q]
      exact g.pc i (by omega)
    · rw [if_neg q]
      exact g.up i j hi (by omega))
  (fun j hj => by
    show (if j = k then c else p j) < c + 1
    by_cases q : j = k
    · rw [if_pos q]
      omega
    · rw [if_neg q]
      have := g.pc j (by omega)
      omega)
  (fun r x hr hx => by
    have e1 : sumN (k + 1) (fun i => B r (if i = k then c else p i) * T' i x) = sumN k (fun i => B r (p i) * T' i x) + B r c * T' k x := by
      show sumN k (fun i => B r (if i = k then c else p i) * T' i x) + B r (if k = k then c else p k) * T' k x = _
      rw [if_pos rfl, sumN_congr (g := fun i => B r (p i) * T' i x) k fun i hi => by rw [if_neg (by omega)]]
    have e2 : sumN k (fun i => B r (p i) * T i x) = sumN k (fun i => B r (p i) * T' i x) + T' k x * sumN k (fun i => B r (p i) * T i c) := by
      rw [← sumN_mul, ← sumN_add]
      refine sumN_congr k fun i hi => ?_
      have := t2 i x (by omega) (by omega) hx
      grind
    have q1 := g.eq r x hr hx
    have q2 := g.eq r c hr hc
    have tk : T' k x * T k c = T k x := by rw [t1 x hx, Rat.div_mul_cancel h0]
    rw [e1]
    by_cases w : r < k
    · rw [if_pos w] at q1 q2
      rw [if_pos (by omega)]
      grind
    · rw [if_neg w] at q1 q2
      by_cases w2 : r = k
      · subst w2
        rw [if_pos (by omega)]
        grind
      · rw [if_neg (by omega)]
        have := t2 r x hr w2 hx
        grind)
  (fun r x h1 h2 h3 => by
    have q := t2 r x h2 (by omega) (by omega)
    by_cases w : x = c
    · subst w
      have tk : T' k x * T k x = T k x := by rw [t1 x hc, Rat.div_mul_cancel h0]
      have : T' k x = 1 := by
        rw [t1 x hc, Rat.div_def, Rat.mul_inv_cancel _ h0]
      rw [q, this]
      grind
    · have a := g.zr r x (by omega) h2 (by omega)
      have b := g.zr k x (Nat.le_refl _) hk (by omega)
      have d : T' k x = 0 := by rw [t1 x (by omega), b, Rat.div_def, Rat.zero_mul]
      rw [q, a, d]
      grind)
  (by
    have s := schur (n := k) (M := fun i j => B i (if j = k then c else p j)) (t := fun i => T i c) fun r hr => by
      have q := g.eq r c (by omega) hc
      rw [if_pos hr] at q
      show B r (if k = k then c else p k) = sumN k fun i => T i c * B r (if i = k then c else p i)
      rw [if_pos rfl, q, Rat.add_zero]
      exact sumN_congr k fun i hi => by rw [if_neg (by omega), Rat.mul_comm]
    have e1 : det k (fun i j => B i (if j = k then c else p j)) = det k (fun i j => B i (p j)) := det_congr k fun i j _ hj => by rw [if_neg (by omega)]
    have e2 : B k (if k = k then c else p k) - sumN k (fun i => T i c * B k (if i = k then c else p i)) = T k c := by
      have q := g.eq k c hk hc
      rw [if_neg (Nat.lt_irrefl _)] at q
      have e3 : sumN k (fun i => T i c * B k (if i = k then c else p i)) = sumN k (fun i => B k (p i) * T i c) := sumN_congr k fun i hi => by rw [if_neg (by omega), Rat.mul_comm]
      rw [if_pos rfl, e3]
      grind
    rw [s]
    show (B k (if k = k then c else p k) - sumN k (fun i => T i c * B k (if i = k then c else p i))) * det k (fun i j => B i (if j = k then c else p j)) ≠ 0
    rw [e1, e2]
    exact fun h => (Rat.mul_eq_zero.mp h).elim h0 g.nz)
theorem GJ.val {E : Nat} {B T : Mx} {p : Nat → Nat} {k c a x : Nat} (g : GJ E B T p k c) (ha : a < k) (hx : x < 28) : det k (setC (fun i j => B i (p j)) a fun r => B r x) = T a x * det k (fun i j => B i (p j)) := by
  have := g.kE
  refine cramer (t := fun i => T i x) ha fun r hr => ?_
  have q := g.eq r x (by omega) hx
  rw [if_pos hr] at q
  rw [q, Rat.add_zero]
  exact sumN_congr k fun i _ => Rat.mul_comm ..
theorem GJ.val2 {E : Nat} {B T : Mx} {p : Nat → Nat} {k c a x : Nat} (g : GJ E B T p k c) (ha : k ≤ a) (ha2 : a < E) (hx : x < 28) : det (k + 1) (fun i j => B (if i = k then a else i) (if j = k then x else p j)) = T a x * det k (fun i j => B i (p j)) := by
  have s := schur (n := k) (M := fun i j => B (if i = k then a else i) (if j = k then x else p j)) (t := fun i => T i x) fun r hr => by
    have q := g.eq r x (by omega) hx
    rw [if_pos hr] at q
    show B (if r = k then a else r) (if k = k then x else p k) = sumN k fun i => T i x * B (if r = k then a else r) (if i = k then x else p i)
    rw [if_pos rfl, if_neg (by omega), q, Rat.add_zero]
    exact sumN_congr k fun i hi => by rw [if_neg (by omega), Rat.mul_comm]
  have e1 : det k (fun i j => B (if i = k then a else i) (if j = k then x else p j)) = det k (fun i j => B i (p j)) := det_congr k fun i j hi hj => by rw [if_neg (by omega), if_neg (by omega)]
  have e2 : B (if k = k then a else k) (if k = k then x else p k) - sumN k (fun i => T i x * B (if k = k then a else k) (if i = k then x else p i)) = T a x := by
    have q := g.eq a x ha2 hx
    rw [if_neg (by omega)] at q
    have e3 : sumN k (fun i => T i x * B (if k = k then a else k) (if i = k then x else p i)) = sumN k (fun i => B a (p i) * T i x) := sumN_congr k fun i hi => by rw [if_pos rfl, if_neg (by omega), Rat.mul_comm]
    rw [e3, if_pos rfl, if_pos rfl]
    grind
  rw [s]
  show (B (if k = k then a else k) (if k = k then x else p k) - sumN k (fun i => T i x * B (if k = k then a else k) (if i = k then x else p i))) * det k (fun i j => B (if i = k then a else i) (if j = k then x else p j)) = _
  rw [e1, e2]
/-! the sizes: every row of the first matrix is whole when it is taken f times, and its numbers make no more than w -/
def gx (x : Nat) : Rat := if x < 27 then 1 else 72001
theorem gx_one (x : Nat) : 1 ≤ gx x := by
  unfold gx
  split <;> grind
def RW (R : Nat → Rat) (f w : Rat) : Prop := (0 < f) ∧ (isZ f) ∧ (f ≤ w) ∧ (1 ≤ w) ∧ (∀ x, x < 12 → isZ (f * R x)) ∧ (∀ x, x < 28 → isZ (64 * (f * R x))) ∧ (∀ x, x < 28 → sumN 12 (fun j => ab (f * R j)) + ab (f * R x) ≤ gx x * w)
theorem RW.f0 {R : Nat → Rat} {f w : Rat} (h : RW R f w) : 0 < f := h.1
theorem RW.fz {R : Nat → Rat} {f w : Rat} (h : RW R f w) : isZ f := h.2.1
theorem RW.fw {R : Nat → Rat} {f w : Rat} (h : RW R f w) : f ≤ w := h.2.2.1
theorem RW.w1 {R : Nat → Rat} {f w : Rat} (h : RW R f w) : 1 ≤ w := h.2.2.2.1
theorem RW.z1 {R : Nat → Rat} {f w : Rat} (h : RW R f w) : ∀ x, x < 12 → isZ (f * R x) := h.2.2.2.2.1
theorem RW.z2 {R : Nat → Rat} {f w : Rat} (h : RW R f w) : ∀ x, x < 28 → isZ (64 * (f * R x)) := h.2.2.2.2.2.1
theorem RW.bd {R : Nat → Rat} {f w : Rat} (h : RW R f w) : ∀ x, x < 28 → sumN 12 (fun j => ab (f * R j)) + ab (f * R x) ≤ gx x * w := h.2.2.2.2.2.2
theorem RW.mk {R : Nat → Rat} {f w : Rat} (hf0 : 0 < f) (hfz : isZ f) (hfw : f ≤ w) (hw1 : 1 ≤ w) (hz1 : ∀ x, x < 12 → isZ (f * R x)) (hz2 : ∀ x, x < 28 → isZ (64 * (f * R x))) (hbd : ∀ x, x < 28 → sumN 12 (fun j => ab (f * R j)) + ab (f * R x) ≤ gx x * w) : RW R f w := ⟨hf0, hfz, hfw, hw1, hz1, hz2, hbd⟩
theorem RW.s0 {R : Nat → Rat} {f w : Rat} (r : RW R f w) : sumN 12 (fun j => ab (f * R j)) ≤ w := by
  have b := r.bd 0 (by omega)
  have n := ab_nn (f * R 0)
  have e : gx 0 = 1 := if_pos (by omega)
  rw [e] at b
  grind
theorem minor {n a : Nat} {M : Mx} {u W : Nat → Rat} (ha : a < n) (hM : ∀ r c, r < n → c < n → c ≠ a → isZ (M r c)) (hu : ∀ r, r < n → isZ (64 * u r)) (hs : ∀ r, r < n → sumN n (fun j => if j = a then ab (u r) else ab (M r j)) ≤ W r) : isZ (64 * det n (setC M a u)) ∧ ab (det n (setC M a u)) ≤ prN n W := by
  constructor
  · have l := det_lin (a := a) (x := 64) (y := 0) (u := u) (v := u) n M ha
    rw [Rat.zero_mul, Rat.add_zero] at l
    rw [← l]
    refine det_isZ n _ fun r c hr hc => ?_
    unfold setC
    by_cases q : c = a
    · rw [if_pos q]
      show isZ (64 * u r + 0 * u r)
      rw [Rat.zero_mul, Rat.add_zero]
      exact hu r hr
    · rw [if_neg q]
      exact hM r c hr hc q
  · refine det_bd n _ fun r hr => ?_
    have e : sumN n (fun c => ab (setC M a u r c)) = sumN n (fun j => if j = a then ab (u r) else ab (M r j)) := sumN_congr n fun c _ => by
      unfold setC
      by_cases q : c = a
      · rw [if_pos q, if_pos q]
      · rw [if_neg q, if_neg q]
    rw [e]
    exact hs r hr
theorem gx_pr {x k : Nat} {w : Nat → Rat} (hk : k ≤ 12) (hw : ∀ r, r < k → 1 ≤ w r) : prN k (fun r => gx x * w r) ≤ prN 12 (fun _ => gx x) * prN k w := by
  rw [prN_mul]
  exact Rat.mul_le_mul_of_nonneg_right (prN_mono 12 hk fun _ _ => gx_one x) (by
    have := prN_pos k hw
    grind)
theorem GJ.row {E : Nat} {B T : Mx} {p : Nat → Nat} {k c r : Nat} {f w : Rat} (g : GJ E B T p k c) (hc : c ≤ 12) (R : RW (B r) f w) : sumN k (fun j => ab (f * B r (p j))) ≤ sumN 12 (fun j => ab (f * B r j)) :=
  sumN_pick (g := fun q => ab (f * B r q)) (fun _ => ab_nn _) k 12 g.up fun j hj => by
    have := g.pc j hj
    omega
theorem GJ.com {E : Nat} {B T : Mx} {p : Nat → Nat} {k c : Nat} {f w : Nat → Rat} (g : GJ E B T p k c) (hc : c ≤ 12) (hE : E ≤ 12) (R : ∀ r, r < E → RW (B r) (f r) (w r)) : ∃ D : Rat, isZ D ∧ D ≠ 0 ∧ ab D ≤ prN k w ∧ (∀ a x, a < k → x < 28 → isZ (64 * (D * T a x)) ∧ ab (D * T a x) ≤ prN 12 (fun _ => gx x) * prN k w) ∧ ∀ a x, k ≤ a → a < E → x < 28 → isZ (64 * (f a * D * T a x)) ∧ ab (f a * D * T a x) ≤ prN 12 (fun _ => gx x) * (prN k w * w a) := by
  have kE := g.kE
  have w1 : ∀ r, r < k → 1 ≤ w r := fun r hr => (R r (by omega)).w1
  refine ⟨prN k f * det k (fun i j => B i (p j)), ?_, ?_, ?_, fun a x ha hx => ?_, fun a x ha ha2 hx => ?_⟩
  · rw [← det_scale]
    refine det_isZ k _ fun i j hi hj => (R i (by omega)).z1 _ ?_
    have := g.pc j hj
    omega
  · intro h
    rcases Rat.mul_eq_zero.mp h with h | h
    · have := prN_gt (f := f) k fun r hr => (R r (by omega)).f0
      grind
    · exact g.nz h
  · rw [← det_scale]
    exact det_bd k _ fun r hr => Rat.le_trans (g.row hc (R r (by omega))) (R r (by omega)).s0
  · have e : prN k f * det k (fun i j => B i (p j)) * T a x = det k (setC (fun i j => f i * B i (p j)) a fun r => f r * B r x) := by
      have v := g.val ha hx
      have s := det_scale (f := f) k (setC (fun i j => B i (p j)) a fun r => B r x)
      have q : det k (fun r c => f r * setC (fun i j => B i (p j)) a (fun r => B r x) r c) = det k (setC (fun i j => f i * B i (p j)) a fun r => f r * B r x) := det_congr k fun i j _ _ => by
        unfold setC
        by_cases q : j = a
        · rw [if_pos q, if_pos q]
        · rw [if_neg q, if_neg q]
      rw [← q, s, v]
      grind
    rw [e]
    have m := minor (n := k) (a := a) (M := fun i j => f i * B i (p j)) (u := fun r => f r * B r x) (W := fun r => gx x * w r) ha
      (fun r j hr hj _ => (R r (by omega)).z1 _ (by
        have := g.pc j hj
        omega))
      (fun r hr => (R r (by omega)).z2 x hx) (fun r hr => by
        have a1 := sumN_rep (h := fun j => ab (f r * B r (p j))) (v := ab (f r * B r x)) ha fun _ => ab_nn _
        have a2 := g.row hc (R r (by omega))
        have a3 := (R r (by omega)).bd x hx
        have a4 := ab_nn (f r * B r x)
        rw [if_neg (by grind)] at a1
        show sumN k (fun j => if j = a then ab (f r * B r x) else ab (f r * B r (p j))) ≤ gx x * w r
        grind)
    exact ⟨m.1, Rat.le_trans m.2 (gx_pr (by omega) w1)⟩
  · have e : f a * (prN k f * det k (fun i j => B i (p j))) * T a x = det (k + 1) (setC (fun i j => f (if i = k then a else i) * B (if i = k then a else i) (p j)) k fun r => f (if r = k then a else r) * B (if r = k then a else r) x) := by
      have v := g.val2 ha ha2 hx
      have s := det_scale (f := fun i => f (if i = k then a else i)) (k + 1) (fun i j => B (if i = k then a else i) (if j = k then x else p j))
      have q : det (k + 1) (fun r c => f (if r = k then a else r) * B (if r = k then a else r) (if c = k then x else p c)) = det (k + 1) (setC (fun i j => f (if i = k then a else i) * B (if i = k then a else i) (p j)) k fun r => f (if r = k then a else r) * B (if r = k then a else r) x) := det_congr (k + 1) fun i j _ _ => by
        unfold setC
        by_cases q : j = k
        · rw [if_pos q, if_pos q]
        · rw [if_neg q, if_neg q]
      have pr : prN (k + 1) (fun i => f (if i = k then a else i)) = prN k f * f a := by
        show prN k (fun i => f (if i = k then a else i)) * f (if k = k then a else k) = _
        rw [if_pos rfl, prN_congr (g := f) k fun i hi => by rw [if_neg (by omega)]]
      rw [← q, s, v, pr]
      grind
    rw [e]
    have m := minor (n := k + 1) (a := k) (M := fun i j => f (if i = k then a else i) * B (if i = k then a else i) (p j)) (u := fun r => f (if r = k then a else r) * B (if r = k then a else r) x) (W := fun r => gx x * w (if r = k then a else r)) (by omega)
      (fun r j hr hj hn => (R _ (by split <;> omega)).z1 _ (by
        have := g.pc j (by omega)
        omega))
      (fun r hr => (R _ (by split <;> omega)).z2 x hx) (fun r hr => by
        generalize hq : (if r = k then a else r) = q
        have qE : q < E := by
          rw [← hq]
          split <;> omega
        have a2 := g.row hc (R q qE)
        have a3 := (R q qE).bd x hx
        have e5 : sumN (k + 1) (fun j => if j = k then ab (f q * B q x) else ab (f q * B q (p j))) = sumN k (fun j => ab (f q * B q (p j))) + ab (f q * B q x) := by
          show sumN k (fun j => if j = k then ab (f q * B q x) else ab (f q * B q (p j))) + (if k = k then ab (f q * B q x) else ab (f q * B q (p k))) = _
          rw [if_pos rfl, sumN_congr (g := fun j => ab (f q * B q (p j))) k fun j hj => by rw [if_neg (by omega)]]
        rw [e5]
        grind)
    have pr : prN (k + 1) (fun r => gx x * w (if r = k then a else r)) ≤ prN 12 (fun _ => gx x) * (prN k w * w a) := by
      have g1 := gx_pr (x := x) (k := k + 1) (w := fun r => w (if r = k then a else r)) (by omega) fun r hr => (R _ (by split <;> omega)).w1
      have e6 : prN (k + 1) (fun r => w (if r = k then a else r)) = prN k w * w a := by
        show prN k (fun i => w (if i = k then a else i)) * w (if k = k then a else k) = _
        rw [if_pos rfl, prN_congr (g := w) k fun i hi => by rw [if_neg (by omega)]]
      rw [e6] at g1
      exact g1
    exact ⟨m.1, Rat.le_trans m.2 pr⟩
/-- how large a number is that is whole when it is taken d times -/
theorem ab_int (z : Int) : ab (z : Rat) = ((z.natAbs : Int) : Rat) := by
  unfold ab
  by_cases h : (z : Rat) < 0
  · rw [if_pos h]
    have := Rat.intCast_neg_iff.mp h
    have e : ((z.natAbs : Int)) = -z := by omega
    rw [e, Rat.intCast_neg]
  · rw [if_neg h]
    have : ¬ z < 0 := fun q => h (Rat.intCast_neg_iff.mpr q)
    have e : ((z.natAbs : Int)) = z := by omega
    rw [e]
theorem sz_of {r d : Rat} {m : Nat} (hd : isZ d) (d0 : d ≠ 0) (hn : isZ (d * r)) (b1 : ab d < (PW m : Rat)) (b2 : ab (d * r) < (PW m : Rat)) : SzQ m r := by
  obtain ⟨z, ez⟩ := hd
  obtain ⟨y, ey⟩ := hn
  rw [ey, ab_int, Rat.intCast_lt_intCast] at b2
  rw [ez, ab_int, Rat.intCast_lt_intCast] at b1
  have z0 : z ≠ 0 := fun h => d0 (by rw [ez, h]; rfl)
  have er : r = Rat.divInt y z := by
    have zz : (z : Rat) ≠ 0 := fun h => z0 (Rat.intCast_eq_zero_iff.mp h)
    rw [Rat.divInt_eq_div, ← ey, ez, Rat.mul_comm, Rat.mul_div_cancel zz]
  have key : ∀ p q : Int, 0 < q → r = Rat.divInt p q → p.natAbs = y.natAbs → q.natAbs = z.natAbs → SzQ m r := fun p q q0 e e1 e2 => by
    have s := divInt_sz (p := p) q0
    rw [← e] at s
    exact ⟨by omega, by omega⟩
  rcases Int.lt_or_gt_of_ne z0 with h | h
  · exact key (-y) (-z) (by omega) (by rw [er, Rat.neg_divInt_neg]) (Int.natAbs_neg y) (Int.natAbs_neg z)
  · exact key y z h er rfl rfl
theorem ab_nz {d : Rat} (h : isZ d) (h0 : d ≠ 0) : 1 ≤ ab d := by
  obtain ⟨z, e⟩ := h
  rw [e, ab_int]
  have z0 : z ≠ 0 := fun q => h0 (by rw [e, q]; rfl)
  have : (1 : Int) ≤ (z.natAbs : Int) := by omega
  exact Rat.intCast_le_intCast.mpr this
theorem ab_pos {x : Rat} (h : 0 ≤ x) : ab x = x := by
  unfold ab
  rw [if_neg (by grind)]
/-- every number of the table -/
theorem GJ.size {E : Nat} {B T : Mx} {p : Nat → Nat} {k c : Nat} {f w : Nat → Rat} {O : Rat} {m : Nat} (g : GJ E B T p k c) (hc : c ≤ 12) (hE : E ≤ 12) (R : ∀ r, r < E → RW (B r) (f r) (w r)) (hO : prN E w ≤ O) (hm : 64 * (prN 12 (fun _ => gx 27) * O) < (PW m : Rat)) {a x : Nat} (ha : a < E) (hx : x < 28) : SzQ m (T a x) := by
  have kE := g.kE
  obtain ⟨D, D1, D2, D3, D4, D5⟩ := g.com hc hE R
  have w1 : ∀ r, r < E → 1 ≤ w r := fun r hr => (R r hr).w1
  have G1 : prN 12 (fun _ => gx x) ≤ prN 12 (fun _ => gx 27) := prN_le 12 (fun _ _ => by
    have := gx_one x
    grind) fun _ _ => by
      have e : gx 27 = 72001 := if_neg (by omega)
      rw [e]
      unfold gx
      split <;> grind
  have G0 : 1 ≤ prN 12 (fun _ => gx x) := prN_pos 12 fun _ _ => gx_one x
  have z64 : isZ 64 := ⟨64, rfl⟩
  have O1 := prN_pos E w1
  by_cases q : a < k
  · have d := D4 a x q hx
    have kw := prN_mono (k := k) (f := w) E kE w1
    have k1 := prN_pos k fun r hr => w1 r (by omega)
    have b2 : prN 12 (fun _ => gx x) * prN k w ≤ prN 12 (fun _ => gx 27) * O := mul_le_mul2 (by grind) G1 (by grind) (by grind)
    have b1 : O ≤ prN 12 (fun _ => gx 27) * O := by
      have := le_mul_one (x := O) (y := prN 12 (fun _ => gx 27)) (by grind) (by grind)
      grind
    have e : 64 * (D * T a x) = 64 * D * T a x := by grind
    have a64 : ab 64 = 64 := ab_pos (by decide)
    rw [e] at d
    refine sz_of (d := 64 * D) (z64.mul D1) (fun h => (Rat.mul_eq_zero.mp h).elim (by decide) D2) d.1 ?_ ?_
    · rw [ab_mul, a64]
      grind
    · rw [← e, ab_mul, a64]
      grind
  · have d := D5 a x (by omega) ha hx
    have kw := prN_one (f := w) (k := k) (r := a) (by omega) ha w1
    have k1 := prN_pos k fun r hr => w1 r (by omega)
    have wa := w1 a ha
    have ka := one_mul_le k1 wa
    have b2 : prN 12 (fun _ => gx x) * (prN k w * w a) ≤ prN 12 (fun _ => gx 27) * O := mul_le_mul2 (by grind) G1 (by grind) (by grind)
    have b1 : O ≤ prN 12 (fun _ => gx 27) * O := by
      have := le_mul_one (x := O) (y := prN 12 (fun _ => gx 27)) (by grind) (by grind)
      grind
    have e : 64 * (f a * D * T a x) = 64 * (f a * D) * T a x := by grind
    have a64 : ab 64 = 64 := ab_pos (by decide)
    have f0 := (R a ha).f0
    have fD : ab (f a * D) ≤ prN k w * w a := by
      rw [ab_mul, ab_pos (by grind)]
      have := mul_le_mul2 (a := f a) (b := w a) (c := ab D) (d := prN k w) (by grind) (R a ha).fw (ab_nn _) D3
      grind
    rw [e] at d
    refine sz_of (d := 64 * (f a * D)) (z64.mul ((R a ha).fz.mul D1)) (fun h => ?_) d.1 ?_ ?_
    · rcases Rat.mul_eq_zero.mp h with h | h
      · exact absurd h (by decide)
      · rcases Rat.mul_eq_zero.mp h with h | h
        · grind
        · exact D2 h
    · rw [ab_mul, a64]
      grind
    · rw [← e, ab_mul, a64]
      grind
