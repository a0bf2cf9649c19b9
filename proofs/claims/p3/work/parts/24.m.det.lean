/-! determinants, from nothing: by the last row; columns exchanged, replaced; bounds by rows -/
def sg (k : Nat) : Rat := if k % 2 = 0 then 1 else -1
theorem sg_s (k : Nat) : sg (k + 1) = -sg k := by
  unfold sg
  by_cases h : k % 2 = 0
  · rw [if_pos h, if_neg (by omega)]
  · rw [if_neg h, if_pos (by omega), Rat.neg_neg]
def sumN : Nat → (Nat → Rat) → Rat
  | 0, _ => 0
  | n + 1, f => sumN n f + f n
theorem sumN_congr {f g : Nat → Rat} : ∀ n : Nat, (∀ j, j < n → f j = g j) → sumN n f = sumN n g
  | 0, _ => rfl
  | n + 1, h => by
    unfold sumN
    rw [sumN_congr n (fun j hj => h j (by omega)), h n (by omega)]
theorem sumN_add {f g : Nat → Rat} : ∀ n : Nat, sumN n (fun j => f j + g j) = sumN n f + sumN n g
  | 0 => (Rat.add_zero 0).symm
  | n + 1 => by
    unfold sumN
    rw [sumN_add n]
    grind
theorem sumN_mul {f : Nat → Rat} {x : Rat} : ∀ n : Nat, sumN n (fun j => x * f j) = x * sumN n f
  | 0 => (Rat.mul_zero x).symm
  | n + 1 => by
    unfold sumN
    rw [sumN_mul n, Rat.mul_add]
theorem sumN_neg {f : Nat → Rat} : ∀ n : Nat, sumN n (fun j => -f j) = -sumN n f
  | 0 => rfl
  | n + 1 => by
    unfold sumN
    rw [sumN_neg n]
    grind
theorem sumN_zero {f : Nat → Rat} (n : Nat) (h : ∀ j, j < n → f j = 0) : sumN n f = 0 := by
  induction n with
  | zero => rfl
  | succ n ih =>
    unfold sumN
    rw [ih (fun j hj => h j (by omega)), h n (by omega), Rat.add_zero]
/-- one of them alone -/
theorem sumN_one {f : Nat → Rat} {a : Nat} : ∀ n : Nat, a < n → (∀ j, j < n → j ≠ a → f j = 0) → sumN n f = f a
  | 0, h, _ => by omega
  | n + 1, h, z => by
    unfold sumN
    by_cases e : a = n
    · rw [sumN_zero n (fun j hj => z j (by omega) (by omega)), Rat.zero_add, e]
    · rw [sumN_one n (by omega) (fun j hj hn => z j (by omega) hn), z n (by omega) (fun w => e w.symm), Rat.add_zero]
/-- two that lie side by side change places -/
theorem sumN_two {f g : Nat → Rat} {a : Nat} : ∀ n : Nat, a + 1 < n → (∀ j, j < n → j ≠ a → j ≠ a + 1 → g j = f j) → g a = f (a + 1) → g (a + 1) = f a → sumN n g = sumN n f
  | 0, h, _, _, _ => by omega
  | n + 1, h, z, e1, e2 => by
    unfold sumN
    by_cases e : a + 1 = n
    · subst e
      unfold sumN
      rw [sumN_congr a (fun j hj => z j (by omega) (by omega) (by omega)), e1, e2]
      grind
    · rw [sumN_two n (by omega) (fun j hj p q => z j (by omega) p q) e1 e2, z n (by omega) (by omega) (by omega)]
abbrev Mx : Type := Nat → Nat → Rat
/-- without column j -/
def cut (M : Mx) (j : Nat) : Mx := fun r c => M r (if c < j then c else c + 1)
def det : Nat → Mx → Rat
  | 0, _ => 1
  | n + 1, M => sumN (n + 1) fun j => sg (n + j) * M n j * det n (cut M j)
theorem det_s (n : Nat) (M : Mx) : det (n + 1) M = sumN (n + 1) fun j => sg (n + j) * M n j * det n (cut M j) := rfl
theorem det_congr {M P : Mx} : ∀ n : Nat, (∀ r c, r < n → c < n → M r c = P r c) → det n M = det n P
  | 0, _ => rfl
  | n + 1, h => by
    rw [det_s, det_s]
    refine sumN_congr _ fun j hj => ?_
    rw [h n j (by omega) hj, det_congr n fun r c hr hc => ?_]
    unfold cut
    split
    · exact h r c (by omega) (by omega)
    · exact h r (c + 1) (by omega) (by omega)
/-- column a set anew -/
def setC (M : Mx) (a : Nat) (v : Nat → Rat) : Mx := fun r c => if c = a then v r else M r c
theorem cut_setC_eq (M : Mx) (a : Nat) (v : Nat → Rat) : cut (setC M a v) a = cut M a := by
  funext r c
  unfold cut setC
  split
  · next h => rw [if_neg (by omega)]
  · next h => rw [if_neg (by omega)]
theorem cut_lt (M : Mx) {j r c : Nat} (h : c < j) : cut M j r c = M r c := by
  unfold cut
  rw [if_pos h]
theorem cut_ge (M : Mx) {j r c : Nat} (h : ¬ c < j) : cut M j r c = M r (c + 1) := by
  unfold cut
  rw [if_neg h]
theorem setC_eq (M : Mx) {a r c : Nat} {v : Nat → Rat} (h : c = a) : setC M a v r c = v r := if_pos h
theorem setC_ne (M : Mx) {a r c : Nat} {v : Nat → Rat} (h : ¬ c = a) : setC M a v r c = M r c := if_neg h
theorem cut_setC (M : Mx) {a j : Nat} (v : Nat → Rat) (h : j ≠ a) : cut (setC M a v) j = setC (cut M j) (if a < j then a else a - 1) v := by
  funext r c
  have s : (a < j ∧ (if a < j then a else a - 1) = a) ∨ (j < a ∧ (if a < j then a else a - 1) = a - 1) := by
    split
    · exact Or.inl ⟨by assumption, rfl⟩
    · exact Or.inr ⟨by omega, rfl⟩
  generalize (if a < j then a else a - 1) = b at s ⊢
  by_cases q : c < j
  · rw [cut_lt _ q]
    by_cases w : c = a
    · rw [setC_eq _ w, setC_eq _ (by omega)]
    · rw [setC_ne _ w, setC_ne _ (by omega), cut_lt _ q]
  · rw [cut_ge _ q]
    by_cases w : c + 1 = a
    · rw [setC_eq _ w, setC_eq _ (by omega)]
    · rw [setC_ne _ w, setC_ne _ (by omega), cut_ge _ q]
theorem det_lin {a : Nat} {x y : Rat} {u v : Nat → Rat} : ∀ (n : Nat) (M : Mx), a < n → det n (setC M a fun r => x * u r + y * v r) = x * det n (setC M a u) + y * det n (setC M a v)
  | 0, _, h => by omega
  | n + 1, M, h => by
    rw [det_s, det_s, det_s, ← sumN_mul, ← sumN_mul, ← sumN_add]
    refine sumN_congr _ fun j hj => ?_
    by_cases e : j = a
    · subst e
      rw [cut_setC_eq, cut_setC_eq, cut_setC_eq]
      have e1 : ∀ w : Nat → Rat, setC M j w n j = w n := fun w => if_pos rfl
      rw [e1, e1, e1]
      grind
    · rw [cut_setC M _ e, cut_setC M _ e, cut_setC M _ e, det_lin n (cut M j) (by split <;> omega)]
      have e1 : ∀ w : Nat → Rat, setC M a w n j = M n j := fun w => if_neg e
      rw [e1, e1, e1]
      grind
/-- columns a and a + 1 change places -/
def swp (M : Mx) (a : Nat) : Mx := fun r c => M r (if c = a then a + 1 else if c = a + 1 then a else c)
theorem swp_0 (M : Mx) {a r c : Nat} (h : c = a) : swp M a r c = M r (a + 1) := by
  unfold swp
  rw [if_pos h]
theorem swp_1 (M : Mx) {a r c : Nat} (h : c = a + 1) : swp M a r c = M r a := by
  unfold swp
  rw [if_neg (by omega), if_pos h]
theorem swp_o (M : Mx) {a r c : Nat} (h : ¬ c = a) (h2 : ¬ c = a + 1) : swp M a r c = M r c := by
  unfold swp
  rw [if_neg h, if_neg h2]
theorem cut_swp (M : Mx) {a j : Nat} (h1 : j ≠ a) (h2 : j ≠ a + 1) : cut (swp M a) j = swp (cut M j) (if a < j then a else a - 1) := by
  funext r c
  have s : (a < j ∧ (if a < j then a else a - 1) = a) ∨ (j < a ∧ (if a < j then a else a - 1) = a - 1) := by
    split
    · exact Or.inl ⟨by assumption, rfl⟩
    · exact Or.inr ⟨by omega, rfl⟩
  generalize (if a < j then a else a - 1) = b at s ⊢
  by_cases q : c < j
  · rw [cut_lt _ q]
    by_cases w : c = a
    · rw [swp_0 _ w, swp_0 _ (by omega), cut_lt _ (by omega)]
      congr 1
      omega
    · by_cases w2 : c = a + 1
      · rw [swp_1 _ w2, swp_1 _ (by omega), cut_lt _ (by omega)]
        congr 1
        omega
      · rw [swp_o _ w w2, swp_o _ (by omega) (by omega), cut_lt _ q]
  · rw [cut_ge _ q]
    by_cases w : c + 1 = a
    · rw [swp_0 _ w, swp_0 _ (by omega), cut_ge _ (by omega)]
      congr 1
      omega
    · by_cases w2 : c + 1 = a + 1
      · rw [swp_1 _ w2, swp_1 _ (by omega), cut_ge _ (by omega)]
        congr 1
        omega
      · rw [swp_o _ w w2, swp_o _ (by omega) (by omega), cut_ge _ q]
theorem cut_swp0 (M : Mx) (a : Nat) : cut (swp M a) a = cut M (a + 1) := by
  funext r c
  by_cases q : c < a
  · rw [cut_lt _ q, cut_lt _ (by omega), swp_o _ (by omega) (by omega)]
  · rw [cut_ge _ q]
    by_cases w : c = a
    · rw [swp_1 _ (by omega), cut_lt _ (by omega), w]
    · rw [swp_o _ (by omega) (by omega), cut_ge _ (by omega)]
theorem cut_swp1 (M : Mx) (a : Nat) : cut (swp M a) (a + 1) = cut M a := by
  funext r c
  by_cases q : c < a
  · rw [cut_lt _ (by omega), cut_lt _ q, swp_o _ (by omega) (by omega)]
  · by_cases w : c = a
    · rw [cut_lt _ (by omega), swp_0 _ w, cut_ge _ q, w]
    · rw [cut_ge _ (by omega), cut_ge _ q, swp_o _ (by omega) (by omega)]
theorem det_swp {a : Nat} : ∀ (n : Nat) (M : Mx), a + 1 < n → det n (swp M a) = -det n M
  | 0, _, h => by omega
  | n + 1, M, h => by
    rw [det_s, det_s, ← sumN_neg]
    refine sumN_two _ h (fun j hj h1 h2 => ?_) ?_ ?_
    · have e1 : swp M a n j = M n j := by
        unfold swp
        rw [if_neg h1, if_neg h2]
      rw [e1, cut_swp M h1 h2, det_swp n (cut M j) (by split <;> omega)]
      grind
    · have e1 : swp M a n a = M n (a + 1) := by
        unfold swp
        rw [if_pos rfl]
      rw [e1, cut_swp0, show n + (a + 1) = n + a + 1 from rfl, sg_s]
      grind
    · have e1 : swp M a n (a + 1) = M n a := by
        unfold swp
        rw [if_neg (by omega), if_pos rfl]
      rw [e1, cut_swp1, show n + (a + 1) = n + a + 1 from rfl, sg_s]
      grind
theorem rat_self_neg {x : Rat} (h : x = -x) : x = 0 := by grind
/-- two columns that are the same -/
theorem det_eq {a : Nat} : ∀ (d n : Nat) (M : Mx), a + d + 1 < n → (∀ r, r < n → M r a = M r (a + d + 1)) → det n M = 0
  | 0, n, M, h, e => by
    refine rat_self_neg ?_
    rw [← det_swp n M (a := a) h]
    refine det_congr n fun r c hr hc => ?_
    unfold swp
    by_cases w : c = a
    · rw [if_pos w, w]
      exact e r hr
    · rw [if_neg w]
      by_cases w2 : c = a + 1
      · rw [if_pos w2, w2]
        exact (e r hr).symm
      · rw [if_neg w2]
  | d + 1, n, M, h, e => by
    have k := det_swp n M (a := a + d + 1) (by omega)
    have z := det_eq (a := a) d n (swp M (a + d + 1)) (by omega) fun r hr => by
      unfold swp
      rw [if_neg (by omega), if_neg (by omega), if_pos rfl]
      exact e r hr
    rw [z] at k
    grind
/-- a column of zeros -/
theorem det_zero {a n : Nat} {M : Mx} (h : a < n) (z : ∀ r, r < n → M r a = 0) : det n M = 0 := by
  have e : det n M = det n (setC M a fun r => (0 : Rat) * M r a + 0 * M r a) := det_congr n fun r c hr hc => by
    unfold setC
    split
    · next q =>
      rw [q, z r hr]
      grind
    · rfl
  rw [e, det_lin n M h]
  grind
/-- the last column is 0 but for its last number -/
theorem det_last {n : Nat} {M : Mx} (z : ∀ r, r < n → M r n = 0) : det (n + 1) M = M n n * det n M := by
  rw [det_s, sumN_one (a := n) (n + 1) (by omega) fun j hj hn => ?_]
  · have e : sg (n + n) = 1 := by
      unfold sg
      rw [if_pos (by omega)]
    have e2 : det n (cut M n) = det n M := det_congr n fun r c hr hc => by
      unfold cut
      rw [if_pos hc]
    rw [e, e2, Rat.one_mul]
  · have : det n (cut M j) = 0 := by
      refine det_zero (a := n - 1) (by omega) fun r hr => ?_
      unfold cut
      rw [if_neg (by omega), show n - 1 + 1 = n by omega]
      exact z r hr
    rw [this, Rat.mul_zero]
/-- a column that is a sum of all columns, so many times each -/
theorem det_sum {n a : Nat} {M : Mx} (ha : a < n) (t : Nat → Rat) : ∀ m : Nat, m ≤ n → det n (setC M a fun r => sumN m fun i => t i * M r i) = if a < m then t a * det n M else 0
  | 0, _ => by
    rw [if_neg (by omega)]
    refine det_zero ha fun r _ => ?_
    unfold setC
    rw [if_pos rfl]
    rfl
  | m + 1, hm => by
    have e : (fun r => sumN (m + 1) fun i => t i * M r i) = fun r => (1 : Rat) * (sumN m fun i => t i * M r i) + t m * M r m := by
      funext r
      rw [Rat.one_mul]
      rfl
    rw [e, det_lin n M ha, det_sum ha t m (by omega), Rat.one_mul]
    by_cases w : m = a
    · subst w
      have e2 : det n (setC M m fun r => M r m) = det n M := det_congr n fun r c _ _ => by
        unfold setC
        split
        · next q => rw [q]
        · rfl
      rw [e2, if_neg (by omega), if_pos (by omega), Rat.zero_add]
    · have e2 : det n (setC M a fun r => M r m) = 0 := by
        rcases Nat.lt_or_gt_of_ne w with q | q
        · refine det_eq (a := m) (a - m - 1) n _ (by omega) fun r _ => ?_
          unfold setC
          rw [if_neg w, show m + (a - m - 1) + 1 = a by omega, if_pos rfl]
        · refine det_eq (a := a) (m - a - 1) n _ (by omega) fun r _ => ?_
          unfold setC
          rw [if_pos rfl, show a + (m - a - 1) + 1 = m by omega, if_neg w]
      rw [e2, Rat.mul_zero, Rat.add_zero]
      by_cases q : a < m
      · rw [if_pos q, if_pos (by omega)]
      · rw [if_neg q, if_neg (by omega)]
/-- Cramer: t a is a quotient of two determinants -/
theorem cramer {n a : Nat} {M : Mx} {v t : Nat → Rat} (ha : a < n) (h : ∀ r, r < n → v r = sumN n fun i => t i * M r i) : det n (setC M a v) = t a * det n M := by
  have e : det n (setC M a v) = det n (setC M a fun r => sumN n fun i => t i * M r i) := det_congr n fun r c hr _ => by
    unfold setC
    split
    · exact h r hr
    · rfl
  rw [e, det_sum ha t n (Nat.le_refl n), if_pos ha]
/-- one more row and column: what is left of the last number when all other columns are taken from the last one -/
theorem schur {n : Nat} {M : Mx} {t : Nat → Rat} (h : ∀ r, r < n → M r n = sumN n fun i => t i * M r i) : det (n + 1) M = (M n n - sumN n fun i => t i * M n i) * det n M := by
  have e : det (n + 1) M = det (n + 1) (setC M n fun r => M r n) := det_congr _ fun r c _ _ => by
    unfold setC
    split
    · next q => rw [q]
    · rfl
  have s := det_sum (M := M) (n := n + 1) (a := n) (by omega) t n (by omega)
  rw [if_neg (by omega)] at s
  have l := det_lin (a := n) (x := 1) (y := -1) (u := fun r => M r n) (v := fun r => sumN n fun i => t i * M r i) (n + 1) M (by omega)
  rw [s] at l
  have e3 : det (n + 1) (setC M n fun r => M r n) = det (n + 1) (setC M n fun r => 1 * M r n + -1 * (sumN n fun i => t i * M r i)) := by grind
  rw [e, e3, det_last fun r hr => ?_]
  · have e4 : det n (setC M n fun r => 1 * M r n + -1 * (sumN n fun i => t i * M r i)) = det n M := det_congr n fun r c _ hc => by
      unfold setC
      rw [if_neg (by omega)]
    rw [e4]
    unfold setC
    rw [if_pos rfl]
    grind
  · unfold setC
    rw [if_pos rfl]
    show (1 : Rat) * M r n + -1 * (sumN n fun i => t i * M r i) = 0
    rw [h r hr]
    grind
/-- whole numbers -/
def isZ (x : Rat) : Prop := ∃ z : Int, x = (z : Rat)
theorem isZ.add {x y : Rat} (a : isZ x) (b : isZ y) : isZ (x + y) := by
  obtain ⟨z, e⟩ := a
  obtain ⟨w, f⟩ := b
  exact ⟨z + w, by rw [e, f, Rat.intCast_add]⟩
theorem isZ.mul {x y : Rat} (a : isZ x) (b : isZ y) : isZ (x * y) := by
  obtain ⟨z, e⟩ := a
  obtain ⟨w, f⟩ := b
  exact ⟨z * w, by rw [e, f, Rat.intCast_mul]⟩
theorem isZ.sum {f : Nat → Rat} : ∀ n : Nat, (∀ j, j < n → isZ (f j)) → isZ (sumN n f)
  | 0, _ => ⟨0, rfl⟩
  | n + 1, h => (isZ.sum n fun j hj => h j (by omega)).add (h n (by omega))
theorem isZ_sg (k : Nat) : isZ (sg k) := by
  unfold sg
  split
  · exact ⟨1, rfl⟩
  · exact ⟨-1, rfl⟩
theorem det_isZ : ∀ (n : Nat) (M : Mx), (∀ r c, r < n → c < n → isZ (M r c)) → isZ (det n M)
  | 0, _, _ => ⟨1, rfl⟩
  | n + 1, M, h => by
    rw [det_s]
    refine isZ.sum _ fun j hj => ((isZ_sg _).mul (h n j (by omega) hj)).mul (det_isZ n _ fun r c hr hc => ?_)
    unfold cut
    split
    · exact h r c (by omega) (by omega)
    · exact h r (c + 1) (by omega) (by omega)
/-! |det| is at most the product of the rows' sums -/
def ab (x : Rat) : Rat := if x < 0 then -x else x
theorem ab_nn (x : Rat) : 0 ≤ ab x := by
  unfold ab
  split <;> grind
theorem ab_mul (x y : Rat) : ab (x * y) = ab x * ab y := by
  have p := @Rat.mul_pos
  by_cases hx : x < 0
  · by_cases hy : y < 0
    · have := p (a := -x) (b := -y) (by grind) (by grind)
      unfold ab
      rw [if_pos hx, if_pos hy, if_neg (by grind)]
      grind
    · by_cases y0 : y = 0
      · rw [y0, Rat.mul_zero]
        unfold ab
        rw [if_neg (by grind), Rat.mul_zero]
      · have := p (a := -x) (b := y) (by grind) (by grind)
        unfold ab
        rw [if_pos hx, if_neg hy, if_pos (by grind)]
        grind
  · by_cases x0 : x = 0
    · rw [x0, Rat.zero_mul]
      unfold ab
      rw [if_neg (by grind), Rat.zero_mul]
    · by_cases hy : y < 0
      · have := p (a := x) (b := -y) (by grind) (by grind)
        unfold ab
        rw [if_neg hx, if_pos hy, if_pos (by grind)]
        grind
      · by_cases y0 : y = 0
        · rw [y0, Rat.mul_zero]
          unfold ab
          rw [if_neg (show ¬ (0 : Rat) < 0 by grind), Rat.mul_zero]
        · have := p (a := x) (b := y) (by grind) (by grind)
          unfold ab
          rw [if_neg hx, if_neg hy, if_neg (by grind)]
theorem ab_add (x y : Rat) : ab (x + y) ≤ ab x + ab y := by
  unfold ab
  split <;> split <;> split <;> grind
theorem ab_sg (k : Nat) : ab (sg k) = 1 := by
  unfold sg ab
  split
  · rw [if_neg (by grind)]
  · rw [if_pos (by grind)]
    grind
theorem sumN_le {f g : Nat → Rat} : ∀ n : Nat, (∀ j, j < n → f j ≤ g j) → sumN n f ≤ sumN n g
  | 0, _ => Rat.le_refl
  | n + 1, h => by
    have a := sumN_le n (fun j hj => h j (by omega))
    have b := h n (by omega)
    unfold sumN
    grind
theorem ab_sum {f : Nat → Rat} : ∀ n : Nat, ab (sumN n f) ≤ sumN n fun j => ab (f j)
  | 0 => by
    unfold sumN ab
    rw [if_neg (by grind)]
    exact Rat.le_refl
  | n + 1 => by
    have a := ab_sum (f := f) n
    have b := ab_add (sumN n f) (f n)
    unfold sumN
    grind
/-- a sum without its number j -/
theorem sumN_skip {f : Nat → Rat} {j : Nat} : ∀ n : Nat, j ≤ n → sumN n (fun c => f (if c < j then c else c + 1)) + f j = sumN (n + 1) f
  | 0, h => by
    have e : j = 0 := by omega
    subst e
    rfl
  | n + 1, h => by
    by_cases q : j ≤ n
    · have a := sumN_skip (f := f) n q
      have e : sumN (n + 1) (fun c => f (if c < j then c else c + 1)) = sumN n (fun c => f (if c < j then c else c + 1)) + f (n + 1) := by
        show _ + f (if n < j then n else n + 1) = _
        rw [if_neg (by omega)]
      have e2 : sumN (n + 1 + 1) f = sumN (n + 1) f + f (n + 1) := rfl
      rw [e, e2]
      grind
    · have e3 : j = n + 1 := by omega
      subst e3
      have e : sumN (n + 1) (fun c => f (if c < n + 1 then c else c + 1)) = sumN (n + 1) f := sumN_congr _ fun c hc => by rw [if_pos hc]
      rw [e]
      rfl
/-- a product -/
def prN : Nat → (Nat → Rat) → Rat
  | 0, _ => 1
  | n + 1, f => prN n f * f n
theorem det_bd {R : Nat → Rat} : ∀ (n : Nat) (M : Mx), (∀ r, r < n → sumN n (fun c => ab (M r c)) ≤ R r) → ab (det n M) ≤ prN n R
  | 0, _, _ => by
    show ab 1 ≤ 1
    unfold ab
    rw [if_neg (by grind)]
    exact Rat.le_refl
  | n + 1, M, h => by
    have k : ∀ j, j < n + 1 → ab (det n (cut M j)) ≤ prN n R := fun j hj => det_bd n (cut M j) fun r hr => by
      have a := h r (by omega)
      have b := sumN_skip (f := fun c => ab (M r c)) (j := j) n (by omega)
      have c := ab_nn (M r j)
      have e : sumN n (fun c => ab (cut M j r c)) = sumN n (fun c => ab (M r (if c < j then c else c + 1))) := rfl
      rw [e]
      grind
    have p : 0 ≤ prN n R := Rat.le_trans (ab_nn _) (k 0 (by omega))
    rw [det_s]
    refine Rat.le_trans (ab_sum _) (Rat.le_trans (sumN_le (g := fun j => prN n R * ab (M n j)) _ fun j hj => ?_) ?_)
    · rw [ab_mul, ab_mul, ab_sg, Rat.one_mul, Rat.mul_comm (prN n R)]
      exact Rat.mul_le_mul_of_nonneg_left (k j hj) (ab_nn _)
    · rw [sumN_mul]
      exact Rat.mul_le_mul_of_nonneg_left (h n (by omega)) p
