/-! X12 by hand, the numbers alone: ways over labels, what is best, that looking ends -/
theorem nd_le12 : ∀ {l L : List Int}, l.Nodup → (∀ x ∈ l, x ∈ L) → l.length ≤ L.length
  | [], L, _, _ => Nat.zero_le _
  | a :: l, L, hn, hs => by
    have hn2 := List.nodup_cons.mp hn
    have ha : a ∈ L := hs a List.mem_cons_self
    have h1 : l.length ≤ (L.erase a).length := nd_le12 hn2.2 (fun x hx => by
      have ne : x ≠ a := fun e => hn2.1 (e ▸ hx)
      exact (List.mem_erase_of_ne ne).mpr (hs x (List.mem_cons_of_mem _ hx)))
    have h2 : (L.erase a).length = L.length - 1 := List.length_erase_of_mem ha
    have h3 : 0 < L.length := List.length_pos_of_mem ha
    rw [List.length_cons]
    omega
def up12 : Nat → List Int
  | 0 => []
  | n + 1 => (n : Int) :: up12 n
theorem up12_len : ∀ n, (up12 n).length = n
  | 0 => rfl
  | n + 1 => by
    show ((n : Int) :: up12 n).length = n + 1
    rw [List.length_cons, up12_len n]
theorem up12_mem : ∀ {n : Nat} {x : Int}, 0 ≤ x → x < (n : Int) → x ∈ up12 n
  | 0, x, a, b => by omega
  | n + 1, x, a, b => by
    show x ∈ (n : Int) :: up12 n
    by_cases e : x = (n : Int)
    · rw [e]; exact List.mem_cons_self
    · exact List.mem_cons_of_mem _ (up12_mem a (by omega))
theorem nd_len12 {l : List Int} {n : Nat} (h : l.Nodup) (r : ∀ x ∈ l, 0 ≤ x ∧ x < (n : Int)) : l.length ≤ n := by
  have := nd_le12 h (fun x hx => up12_mem (r x hx).1 (r x hx).2)
  rw [up12_len] at this
  exact this
abbrev En12 : Type := Int × Int × Int × Int
def le3 (b t m b' t' m' : Int) : Prop := b < b' ∨ b = b' ∧ (t < t' ∨ t = t' ∧ m ≤ m')
def lt3 (b t m b' t' m' : Int) : Prop := b < b' ∨ b = b' ∧ (t < t' ∨ t = t' ∧ m < m')
theorem le3_rf (b t m : Int) : le3 b t m b t m := Or.inr ⟨rfl, Or.inr ⟨rfl, Int.le_refl _⟩⟩
def Wk12 (R : Int → Int → Int → Int → Prop) : List En12 → Prop
  | [] => False
  | [e] => e.2.1 = 0 ∧ e.2.2.1 = 0 ∧ e.2.2.2 = 0 ∧ e.1 / 36 % 17 < 16
  | e :: f :: w => (∃ p t, R e.1 f.1 p t ∧ e.2.1 = f.2.1 + p ∧ e.2.2.1 = f.2.2.1 + t ∧ e.2.2.2 = f.2.2.2 + 1) ∧ Wk12 R (f :: w)
def RB12 (R : Int → Int → Int → Int → Prop) : Prop := ∀ i n p t, R i n p t → (0 ≤ p ∧ p ≤ 132157080) ∧ 0 ≤ t ∧ t ≤ 1
theorem Wk12.b {R : Int → Int → Int → Int → Prop} (hR : RB12 R) : ∀ {w : List En12} {e : En12}, Wk12 R (e :: w) → e.2.2.2 = (w.length : Int) ∧ (0 ≤ e.2.2.1 ∧ e.2.2.1 ≤ (w.length : Int)) ∧ 0 ≤ e.2.1 ∧ e.2.1 ≤ 132157080 * (w.length : Int)
  | [], e, h => by
    obtain ⟨h1, h2, h3, _⟩ := h
    rw [h1, h2, h3]
    exact ⟨rfl, ⟨Int.le_refl _, Int.le_refl _⟩, Int.le_refl _, Int.le_refl _⟩
  | f :: w, e, h => by
    obtain ⟨⟨p, t, r, h1, h2, h3⟩, k⟩ := h
    obtain ⟨k1, ⟨k2, k3⟩, k4, k5⟩ := Wk12.b hR k
    obtain ⟨⟨r1, r2⟩, r3, r4⟩ := hR _ _ _ _ r
    have e1 : (((f :: w).length : Nat) : Int) = (w.length : Int) + 1 := by rw [List.length_cons]; omega
    rw [e1]
    omega
theorem Wk12.mono {R : Int → Int → Int → Int → Prop} (hR : RB12 R) : ∀ {w : List En12} {e : En12}, Wk12 R (e :: w) → ∀ f ∈ w, f.2.1 ≤ e.2.1 ∧ f.2.2.1 ≤ e.2.2.1 ∧ f.2.2.2 < e.2.2.2
  | [], e, h, f, hf => absurd hf List.not_mem_nil
  | g :: w, e, h, f, hf => by
    obtain ⟨⟨p, t, r, h1, h2, h3⟩, k⟩ := h
    obtain ⟨⟨r1, r2⟩, r3, r4⟩ := hR _ _ _ _ r
    rcases List.mem_cons.mp hf with q | q
    · subst q
      omega
    · have := Wk12.mono hR k f q
      omega
/-- each label that is known has a way of its own, no label twice, and what is known of those behind is no worse -/
def Ok12 (R : Int → Int → Int → Int → Prop) (K B T M : Int → Int) : Prop := ∀ i : Int, 0 ≤ i → i < 88128 → K i ≠ 0 → ∃ w : List En12, Wk12 R ((i, B i, T i, M i) :: w) ∧ ((i :: w.map fun e => e.1) : List Int).Nodup ∧ ∀ e ∈ (i, B i, T i, M i) :: w, (0 ≤ e.1 ∧ e.1 < 88128) ∧ K e.1 ≠ 0 ∧ le3 (B e.1) (T e.1) (M e.1) e.2.1 e.2.2.1 e.2.2.2
theorem Ok12.b {R : Int → Int → Int → Int → Prop} {K B T M : Int → Int} (hR : RB12 R) (ok : Ok12 R K B T M) {i : Int} (h0 : 0 ≤ i) (h1 : i < 88128) (k : K i ≠ 0) : (0 ≤ M i ∧ M i ≤ 88127) ∧ (0 ≤ T i ∧ T i ≤ 88127) ∧ 0 ≤ B i ∧ B i ≤ 11646606989160 := by
  obtain ⟨w, w1, w2, w3⟩ := ok i h0 h1 k
  obtain ⟨k1, ⟨k2, k3⟩, k4, k5⟩ := Wk12.b hR w1
  have hl : (i :: w.map fun e => e.1).length ≤ 88128 := nd_len12 (n := 88128) w2 (fun x hx => by
    rcases List.mem_cons.mp hx with q | q
    · rw [q]; exact ⟨h0, h1⟩
    · obtain ⟨e, he, q⟩ := List.mem_map.mp q
      rw [← q]
      exact (w3 e (List.mem_cons_of_mem _ he)).1)
  rw [List.length_cons, List.length_map] at hl
  have k1 : M i = (w.length : Int) := k1
  have k2 : 0 ≤ T i := k2
  have k3 : T i ≤ (w.length : Int) := k3
  have k4 : 0 ≤ B i := k4
  have k5 : B i ≤ 132157080 * (w.length : Int) := k5
  omega
/-- a label becomes better -/
theorem Ok12.step {R : Int → Int → Int → Int → Prop} {K B T M K' B' T' M' : Int → Int} (hR : RB12 R) (ok : Ok12 R K B T M) {i n p t : Int} (i0 : 0 ≤ i) (i1 : i < 88128) (n0 : 0 ≤ n) (n1 : n < 88128) (r : R i n p t) (kn : K n ≠ 0) (ls : K i = 0 ∨ lt3 (B n + p) (T n + t) (M n + 1) (B i) (T i) (M i))
    (hK : ∀ j : Int, 0 ≤ j → K' j = if j = i then 1 else K j) (hB : ∀ j : Int, 0 ≤ j → B' j = if j = i then B n + p else B j) (hT : ∀ j : Int, 0 ≤ j → T' j = if j = i then T n + t else T j) (hM : ∀ j : Int, 0 ≤ j → M' j = if j = i then M n + 1 else M j) : Ok12 R K' B' T' M' := by
  obtain ⟨⟨r1, r2⟩, r3, r4⟩ := hR _ _ _ _ r
  -- what is known of those in another's way
  have low : ∀ e : En12, (0 ≤ e.1 ∧ e.1 < 88128) ∧ K e.1 ≠ 0 ∧ le3 (B e.1) (T e.1) (M e.1) e.2.1 e.2.2.1 e.2.2.2 → (0 ≤ e.1 ∧ e.1 < 88128) ∧ K' e.1 ≠ 0 ∧ le3 (B' e.1) (T' e.1) (M' e.1) e.2.1 e.2.2.1 e.2.2.2 := by
    rintro e ⟨⟨a1, a2⟩, b, c⟩
    refine ⟨⟨a1, a2⟩, ?_, ?_⟩
    · rw [hK _ a1]
      split
      · decide
      · exact b
    · rw [hB _ a1, hT _ a1, hM _ a1]
      by_cases q : e.1 = i
      · rw [if_pos q, if_pos q, if_pos q]
        rw [q] at b c
        rcases ls with ls | ls
        · exact absurd ls b
        · unfold lt3 at ls
          unfold le3 at c ⊢
          omega
      · rw [if_neg q, if_neg q, if_neg q]
        exact c
  intro j j0 j1 kj
  by_cases q : j = i
  · subst q
    obtain ⟨w, w1, w2, w3⟩ := ok n n0 n1 kn
    have no : ∀ e ∈ (n, B n, T n, M n) :: w, e.1 ≠ j := by
      intro e he q
      obtain ⟨⟨a1, a2⟩, b, c⟩ := w3 e he
      rw [q] at b c
      have m : e.2.1 ≤ B n ∧ e.2.2.1 ≤ T n ∧ e.2.2.2 ≤ M n := by
        rcases List.mem_cons.mp he with z | z
        · rw [z]; exact ⟨Int.le_refl _, Int.le_refl _, Int.le_refl _⟩
        · have m := Wk12.mono hR w1 e z
          exact ⟨m.1, m.2.1, Int.le_of_lt m.2.2⟩
      rcases ls with ls | ls
      · exact b ls
      · unfold lt3 at ls
        unfold le3 at c
        omega
    rw [hB j j0, hT j j0, hM j j0, if_pos rfl, if_pos rfl, if_pos rfl]
    refine ⟨(n, B n, T n, M n) :: w, ⟨⟨p, t, r, rfl, rfl, rfl⟩, w1⟩, ?_, ?_⟩
    · refine List.nodup_cons.mpr ⟨fun z => ?_, w2⟩
      obtain ⟨e, he, z⟩ := List.mem_map.mp z
      exact no e he z
    · intro e he
      rcases List.mem_cons.mp he with z | z
      · subst z
        refine ⟨⟨j0, j1⟩, kj, ?_⟩
        show le3 (B' j) (T' j) (M' j) (B n + p) (T n + t) (M n + 1)
        rw [hB j j0, hT j j0, hM j j0, if_pos rfl, if_pos rfl, if_pos rfl]
        exact le3_rf _ _ _
      · exact low e (w3 e z)
  · have kj2 : K j ≠ 0 := by
      have := hK j j0
      rw [if_neg q] at this
      rw [← this]
      exact kj
    obtain ⟨w, w1, w2, w3⟩ := ok j j0 j1 kj2
    rw [hB j j0, hT j j0, hM j j0, if_neg q, if_neg q, if_neg q]
    exact ⟨w, w1, w2, fun e he => low e (w3 e he)⟩
/-- a label that can be had at once -/
theorem Ok12.goal {R : Int → Int → Int → Int → Prop} {K B T M K' B' T' M' : Int → Int} (ok : Ok12 R K B T M) {i : Int} (i0 : 0 ≤ i) (i1 : i < 88128) (ih : i / 36 % 17 < 16) (z : ∀ j : Int, 0 ≤ j → j < 88128 → K j ≠ 0 → B j = 0 ∧ T j = 0 ∧ M j = 0 ∧ j / 36 % 17 < 16)
    (hK : ∀ j : Int, 0 ≤ j → K' j = if j = i then 1 else K j) (hB : ∀ j : Int, 0 ≤ j → B' j = if j = i then 0 else B j) (hT : ∀ j : Int, 0 ≤ j → T' j = if j = i then 0 else T j) (hM : ∀ j : Int, 0 ≤ j → M' j = if j = i then 0 else M j) : Ok12 R K' B' T' M' ∧ ∀ j : Int, 0 ≤ j → j < 88128 → K' j ≠ 0 → B' j = 0 ∧ T' j = 0 ∧ M' j = 0 ∧ j / 36 % 17 < 16 := by
  have zz : ∀ j : Int, 0 ≤ j → j < 88128 → K' j ≠ 0 → B' j = 0 ∧ T' j = 0 ∧ M' j = 0 ∧ j / 36 % 17 < 16 := by
    intro j j0 j1 kj
    rw [hB j j0, hT j j0, hM j j0]
    by_cases q : j = i
    · rw [if_pos q, if_pos q, if_pos q, q]; exact ⟨rfl, rfl, rfl, ih⟩
    · rw [if_neg q, if_neg q, if_neg q]
      have := hK j j0
      rw [if_neg q] at this
      exact z j j0 j1 (by rw [← this]; exact kj)
  refine ⟨fun j j0 j1 kj => ?_, zz⟩
  obtain ⟨a, b, c, d⟩ := zz j j0 j1 kj
  refine ⟨[], ⟨a, b, c, d⟩, List.nodup_cons.mpr ⟨List.not_mem_nil, List.nodup_nil⟩, fun e he => ?_⟩
  rcases List.mem_cons.mp he with q | q
  · subst q
    exact ⟨⟨j0, j1⟩, kj, le3_rf _ _ _⟩
  · exact absurd q List.not_mem_nil
/-- how much there is to make better yet -/
def rk12 (K B T M : Int → Int) (i : Int) : Int := if K i = 0 then 1237940039285380274899124224 else B i * 1099511627776 + T i * 1048576 + M i
def sm12 (f : Int → Int) : Nat → Int
  | 0 => 0
  | n + 1 => sm12 f n + f (n : Int)
theorem sm12_le {f g : Int → Int} : ∀ {n : Nat}, (∀ j : Int, 0 ≤ j → j < (n : Int) → g j ≤ f j) → sm12 g n ≤ sm12 f n
  | 0, _ => Int.le_refl _
  | n + 1, h => by
    have h1 := sm12_le (n := n) (fun j a b => h j a (by omega))
    have h2 := h (n : Int) (by omega) (by omega)
    show sm12 g n + g (n : Int) ≤ sm12 f n + f (n : Int)
    omega
theorem sm12_lt {f g : Int → Int} {i : Int} (i0 : 0 ≤ i) (l : g i < f i) : ∀ {n : Nat}, i < (n : Int) → (∀ j : Int, 0 ≤ j → j < (n : Int) → g j ≤ f j) → sm12 g n < sm12 f n
  | 0, i1, _ => by omega
  | n + 1, i1, h => by
    have h2 := h (n : Int) (by omega) (by omega)
    show sm12 g n + g (n : Int) < sm12 f n + f (n : Int)
    by_cases q : i = (n : Int)
    · have h1 := sm12_le (n := n) (fun j a b => h j a (by omega))
      rw [q] at l
      omega
    · have h1 := sm12_lt i0 l (n := n) (by omega) (fun j a b => h j a (by omega))
      omega
theorem sm12_nn {f : Int → Int} : ∀ {n : Nat}, (∀ j : Int, 0 ≤ j → j < (n : Int) → 0 ≤ f j) → 0 ≤ sm12 f n
  | 0, _ => Int.le_refl _
  | n + 1, h => by
    have h1 := sm12_nn (n := n) (fun j a b => h j a (by omega))
    have h2 := h (n : Int) (by omega) (by omega)
    show 0 ≤ sm12 f n + f (n : Int)
    omega
def mu12 (K B T M : Int → Int) (n : Nat) : Int := sm12 (rk12 K B T M) n
theorem Ok12.rk {R : Int → Int → Int → Int → Prop} {K B T M : Int → Int} (hR : RB12 R) (ok : Ok12 R K B T M) {i : Int} (i0 : 0 ≤ i) (i1 : i < 88128) : 0 ≤ rk12 K B T M i ∧ rk12 K B T M i ≤ 1237940039285380274899124224 := by
  unfold rk12
  split
  · omega
  · next k =>
    obtain ⟨a, b, c⟩ := ok.b hR i0 i1 k
    omega
theorem Ok12.mu0 {R : Int → Int → Int → Int → Prop} {K B T M : Int → Int} (hR : RB12 R) (ok : Ok12 R K B T M) {n : Nat} (hn : n = 88128) : 0 ≤ mu12 K B T M n := sm12_nn fun j a b => (ok.rk hR a (by omega)).1
theorem Ok12.less {R : Int → Int → Int → Int → Prop} {K B T M K' B' T' M' : Int → Int} (hR : RB12 R) (ok : Ok12 R K B T M) (ok' : Ok12 R K' B' T' M') {i b t m : Int} (i0 : 0 ≤ i) (i1 : i < 88128) (ls : K i = 0 ∨ lt3 b t m (B i) (T i) (M i))
    (hK : ∀ j : Int, 0 ≤ j → K' j = if j = i then 1 else K j) (hB : ∀ j : Int, 0 ≤ j → B' j = if j = i then b else B j) (hT : ∀ j : Int, 0 ≤ j → T' j = if j = i then t else T j) (hM : ∀ j : Int, 0 ≤ j → M' j = if j = i then m else M j) {n : Nat} (hn : n = 88128) : mu12 K' B' T' M' n < mu12 K B T M n := by
  have l : rk12 K' B' T' M' i < rk12 K B T M i := by
    have k1 : K' i ≠ 0 := by rw [hK i i0, if_pos rfl]; decide
    obtain ⟨a1, a2, a3⟩ := ok'.b hR i0 i1 k1
    have e1 := hB i i0
    have e2 := hT i i0
    have e3 := hM i i0
    rw [if_pos rfl] at e1 e2 e3
    unfold rk12
    rw [if_neg k1]
    by_cases q : K i = 0
    · rw [if_pos q]
      omega
    · rw [if_neg q]
      obtain ⟨c1, c2, c3⟩ := ok.b hR i0 i1 q
      rcases ls with ls | ls
      · exact absurd ls q
      · unfold lt3 at ls
        omega
  refine sm12_lt i0 l (by omega) (fun j j0 j1 => ?_)
  by_cases q : j = i
  · rw [q]
    exact Int.le_of_lt l
  · have e0 := hK j j0
    have e1 := hB j j0
    have e2 := hT j j0
    have e3 := hM j j0
    rw [if_neg q] at e0 e1 e2 e3
    unfold rk12
    rw [e0, e1, e2, e3]
    exact Int.le_refl _
/-- nothing can be made better, of labels of a kind -/
def Fx12 (D : Int → Prop) (R : Int → Int → Int → Int → Prop) (K B T M : Int → Int) : Prop := ∀ i n p t, D i → R i n p t → K n ≠ 0 → K i ≠ 0 ∧ le3 (B i) (T i) (M i) (B n + p) (T n + t) (M n + 1)
def Ed12 (R : Int → Int → Int → Int → Prop) (K B T M : Int → Int) (i n : Int) : Prop := ∃ p t, R i n p t ∧ K n ≠ 0 ∧ B i = B n + p ∧ T i = T n + t ∧ M i = M n + 1
theorem fit12 {D : Int → Prop} {R : Int → Int → Int → Int → Prop} {K B T M : Int → Int} (ok : Ok12 R K B T M) (fx : Fx12 D R K B T M) {i : Int} (i0 : 0 ≤ i) (i1 : i < 88128) (k : K i ≠ 0) (d : D i) (m : 0 < M i) : ∃ n, Ed12 R K B T M i n := by
  obtain ⟨w, w1, w2, w3⟩ := ok i i0 i1 k
  match w, w1, w3 with
  | [], w1, w3 =>
    have : M i = 0 := w1.2.2.1
    omega
  | f :: w, w1, w3 =>
    obtain ⟨⟨p, t, r, h1, h2, h3⟩, w1⟩ := w1
    have h1 : B i = f.2.1 + p := h1
    have h2 : T i = f.2.2.1 + t := h2
    have h3 : M i = f.2.2.2 + 1 := h3
    obtain ⟨a, b, c⟩ := w3 f (List.mem_cons_of_mem _ List.mem_cons_self)
    obtain ⟨q1, q2⟩ := fx i f.1 p t d r b
    unfold le3 at c q2
    exact ⟨f.1, p, t, r, b, by omega, by omega, by omega⟩
theorem Ok12.far {R : Int → Int → Int → Int → Prop} {K B T M : Int → Int} (hR : RB12 R) (ok : Ok12 R K B T M) {i : Int} (i0 : 0 ≤ i) (i1 : i < 88128) (k : K i ≠ 0) (h : 16 ≤ i / 36 % 17) : 1 ≤ M i := by
  obtain ⟨w, w1, w2, w3⟩ := ok i i0 i1 k
  have b := Wk12.b hR w1
  have b1 : M i = (w.length : Int) := b.1
  match w, w1, b1 with
  | [], w1, b1 =>
    have : i / 36 % 17 < 16 := w1.2.2.2
    omega
  | f :: w, w1, b1 =>
    rw [List.length_cons] at b1
    omega
/-- along a best way no place comes twice that differs by shares alone -/
theorem path12 {D : Int → Prop} {R : Int → Int → Int → Int → Prop} {K B T M : Int → Int} (hR : RB12 R) (fx : Fx12 D R K B T M) {v : Nat → Int} {k : Nat} (he : ∀ j : Nat, j < k → Ed12 R K B T M (v j) (v (j + 1)))
    (hD : ∀ (j : Nat) (d : Int), j ≤ k → 0 ≤ d → d ≤ v j % 9 → D (v j - d)) (hs : ∀ (j : Nat) (d : Int), j < k → 0 ≤ d → d ≤ v (j + 1) % 9 → ∀ p t, R (v j) (v (j + 1)) p t → R (v j - d) (v (j + 1) - d) p t) (h9 : ∀ j : Nat, j < k → v (j + 1) % 9 ≤ v j % 9)
    (ms : ∀ d : Int, 0 < d → d ≤ v 0 % 9 → K (v 0 - d) ≠ 0 → le3 (B (v 0)) (T (v 0)) (M (v 0)) (B (v 0 - d)) (T (v 0 - d)) (M (v 0 - d))) : ∀ a b : Nat, a < b → b ≤ k → v a / 9 ≠ v b / 9 := by
  -- what is least along it
  have hm : ∀ n a : Nat, a + n ≤ k → B (v (a + n)) ≤ B (v a) ∧ T (v (a + n)) ≤ T (v a) ∧ M (v (a + n)) + (n : Int) = M (v a) ∧ v (a + n) % 9 ≤ v a % 9 ∧ (0 < n → K (v (a + n)) ≠ 0) := by
    intro n
    induction n with
    | zero => intro a _; exact ⟨Int.le_refl _, Int.le_refl _, by rw [Nat.add_zero]; omega, Int.le_refl _, fun q => by omega⟩
    | succ n ih =>
      intro a ha
      obtain ⟨c1, c2, c3, c4, c5⟩ := ih a (by omega)
      obtain ⟨p, t, r, r1, r2, r3, r4⟩ := he (a + n) (by omega)
      obtain ⟨⟨b1, b2⟩, b3, b4⟩ := hR _ _ _ _ r
      have e9 := h9 (a + n) (by omega)
      rw [show a + (n + 1) = a + n + 1 by omega]
      exact ⟨by omega, by omega, by omega, by omega, fun _ => r1⟩
  intro a b hab hbk q
  obtain ⟨n, rfl⟩ : ∃ n : Nat, b = a + n := ⟨b - a, by omega⟩
  obtain ⟨c1, c2, c3, c4, c5⟩ := hm n a hbk
  obtain ⟨d, hd⟩ : ∃ d : Int, d = v a - v (a + n) := ⟨_, rfl⟩
  have d0 : 0 ≤ d := by omega
  have d9 : d ≤ v a % 9 := by omega
  by_cases dz : d = 0
  · have : v a = v (a + n) := by omega
    rw [← this] at c3
    omega
  -- back to the start
  have back : ∀ m : Nat, m ≤ a → K (v (a - m) - d) ≠ 0 ∧ lt3 (B (v (a - m) - d)) (T (v (a - m) - d)) (M (v (a - m) - d)) (B (v (a - m))) (T (v (a - m))) (M (v (a - m))) := by
    intro m
    induction m with
    | zero =>
      intro _
      rw [Nat.sub_zero, show v a - d = v (a + n) by omega]
      refine ⟨c5 (by omega), ?_⟩
      unfold lt3
      omega
    | succ m ih =>
      intro hm2
      obtain ⟨i1, i2⟩ := ih (by omega)
      have e : a - m = (a - (m + 1)) + 1 := by omega
      rw [e] at i1 i2
      obtain ⟨j, hj⟩ : ∃ j : Nat, j = a - (m + 1) := ⟨_, rfl⟩
      rw [← hj] at i1 i2 ⊢
      obtain ⟨p, t, r, r1, r2, r3, r4⟩ := he j (by omega)
      have x9 : d ≤ v (j + 1) % 9 := by
        obtain ⟨_, _, _, z4, _⟩ := hm (a - (j + 1)) (j + 1) (by omega)
        rw [show j + 1 + (a - (j + 1)) = a by omega] at z4
        omega
      have y9 := h9 j (by omega)
      obtain ⟨f1, f2⟩ := fx _ _ _ _ (hD j d (by omega) d0 (by omega)) (hs j d (by omega) d0 x9 p t r) i1
      refine ⟨f1, ?_⟩
      unfold lt3 at i2 ⊢
      unfold le3 at f2
      omega
  obtain ⟨z1, z2⟩ := back a (Nat.le_refl _)
  rw [Nat.sub_self] at z1 z2
  obtain ⟨_, _, _, z4, _⟩ := hm a 0 (by omega)
  rw [Nat.zero_add] at z4
  have := ms d (by omega) (by omega) z1
  unfold le3 at this
  unfold lt3 at z2
  omega
/-- free cells and others, each with what it can have -/
def cl12 (P : Int → Bool) (s : Nat) (f : Int → List Int) : Nat → List Int
  | 0 => []
  | n + 1 => (if P (n : Int) then f (n : Int) else []) ++ cl12 P s f n
def ct12 (P : Int → Bool) : Nat → Nat
  | 0 => 0
  | n + 1 => (if P (n : Int) then 1 else 0) + ct12 P n
theorem cl12_len {P : Int → Bool} {s : Nat} {f : Int → List Int} (hf : ∀ c, (f c).length = s) : ∀ n, (cl12 P s f n).length = s * ct12 P n
  | 0 => rfl
  | n + 1 => by
    show ((if P (n : Int) then f (n : Int) else []) ++ cl12 P s f n).length = s * ((if P (n : Int) then 1 else 0) + ct12 P n)
    rw [List.length_append, cl12_len hf n, Nat.mul_add]
    split
    · rw [hf]; omega
    · rfl
theorem cl12_mem {P : Int → Bool} {s : Nat} {f : Int → List Int} {x c : Int} (hp : P c = true) (hx : x ∈ f c) (c0 : 0 ≤ c) : ∀ {n : Nat}, c < (n : Int) → x ∈ cl12 P s f n
  | 0, h => by omega
  | n + 1, h => by
    show x ∈ (if P (n : Int) then f (n : Int) else []) ++ cl12 P s f n
    by_cases e : c = (n : Int)
    · refine List.mem_append_left _ ?_
      rw [← e, if_pos hp]
      exact hx
    · exact List.mem_append_right _ (cl12_mem hp hx c0 (by omega))
theorem ct12_two (P : Int → Bool) : ∀ n, ct12 P n + ct12 (fun c => !(P c)) n = n
  | 0 => rfl
  | n + 1 => by
    have := ct12_two P n
    show (if P (n : Int) then 1 else 0) + ct12 P n + ((if (!(P (n : Int))) = true then 1 else 0) + ct12 (fun c => !(P c)) n) = n + 1
    cases P (n : Int) with
    | true => simp only [if_true, Bool.not_true, Bool.false_eq_true, if_false]; omega
    | false => simp only [Bool.not_false, if_true, Bool.false_eq_true, if_false]; omega
/-- codes of a way: 68 cells' number + 4 headings' number + how many bridges in a row -/
def fr12 (P : Int → Bool) (v : Nat → Int) : Nat → List Int
  | 0 => []
  | n + 1 => if P (v (n + 1) / 612) then (v (n + 1) / 9) :: fr12 P v n else fr12 P v n
theorem fr12_mem {P : Int → Bool} {v : Nat → Int} {x : Int} : ∀ {n : Nat}, x ∈ fr12 P v n → ∃ j : Nat, 1 ≤ j ∧ j ≤ n ∧ x = v j / 9 ∧ P (v j / 612) = true
  | 0, h => absurd h List.not_mem_nil
  | n + 1, h => by
    have h : x ∈ (if P (v (n + 1) / 612) then (v (n + 1) / 9) :: fr12 P v n else fr12 P v n) := h
    split at h
    · next q =>
      rcases List.mem_cons.mp h with e | e
      · exact ⟨n + 1, by omega, by omega, e, q⟩
      · obtain ⟨j, a, b, c⟩ := fr12_mem e
        exact ⟨j, a, by omega, c⟩
    · obtain ⟨j, a, b, c⟩ := fr12_mem h
      exact ⟨j, a, by omega, c⟩
theorem fr12_nd {P : Int → Bool} {v : Nat → Int} {k : Nat} (hi : ∀ a b : Nat, a < b → b ≤ k → v a / 9 ≠ v b / 9) : ∀ {n : Nat}, n ≤ k → (fr12 P v n).Nodup
  | 0, _ => List.nodup_nil
  | n + 1, h => by
    show (if P (v (n + 1) / 612) then (v (n + 1) / 9) :: fr12 P v n else fr12 P v n).Nodup
    split
    · refine List.nodup_cons.mpr ⟨fun q => ?_, fr12_nd hi (by omega)⟩
      obtain ⟨j, a, b, c, _⟩ := fr12_mem q
      exact hi j (n + 1) (by omega) h c.symm
    · exact fr12_nd hi (by omega)
theorem long12 {F : Int → Bool} {v : Nat → Int} {k : Nat} (hi : ∀ a b : Nat, a < b → b ≤ k → v a / 9 ≠ v b / 9) (hv : ∀ j : Nat, 1 ≤ j → j ≤ k → 0 ≤ v j ∧ v j / 612 < 144 ∧ v j / 36 % 17 < 16 ∧ (F (v j / 612) = true → v j / 9 % 4 = 0) ∧ (F (v j / 612) = false → 1 ≤ v j / 9 % 4))
    (hr : ∀ j : Nat, 1 ≤ j → j < k → F (v (j + 1) / 612) = false → F (v j / 612) = false → v (j + 1) / 9 % 4 = v j / 9 % 4 + 1) (h1 : 1 ≤ k → F (v 1 / 612) = false → v 1 / 9 % 4 = 1) : (k : Int) ≤ 4609 := by
  have one : ∀ n : Nat, n ≤ k → (fr12 F v n).length + (fr12 (fun c => !(F c)) v n).length = n := by
    intro n
    induction n with
    | zero => intro _; rfl
    | succ n ih =>
      intro hn
      have := ih (by omega)
      show (if F (v (n + 1) / 612) then (v (n + 1) / 9) :: fr12 F v n else fr12 F v n).length + (if (!(F (v (n + 1) / 612))) = true then (v (n + 1) / 9) :: fr12 (fun c => !(F c)) v n else fr12 (fun c => !(F c)) v n).length = n + 1
      cases F (v (n + 1) / 612) with
      | true => simp only [if_true, Bool.not_true, List.length_cons]; simp only [Bool.false_eq_true, if_false]; omega
      | false => simp only [Bool.not_false, if_true, List.length_cons]; simp only [Bool.false_eq_true, if_false]; omega
  have two : ∀ n : Nat, n ≤ k → ((fr12 (fun c => !(F c)) v n).length : Int) ≤ 3 * ((fr12 F v n).length : Int) + (if n = 0 ∨ F (v n / 612) = true then 0 else v n / 9 % 4) := by
    intro n
    induction n with
    | zero => intro _; show ((([] : List Int).length : Nat) : Int) ≤ _; rw [if_pos (Or.inl rfl)]; show (0 : Int) ≤ 3 * ((([] : List Int).length : Nat) : Int) + 0; show (0 : Int) ≤ 3 * 0 + 0; omega
    | succ n ih =>
      intro hn
      have ih := ih (by omega)
      show ((if (!(F (v (n + 1) / 612))) = true then (v (n + 1) / 9) :: fr12 (fun c => !(F c)) v n else fr12 (fun c => !(F c)) v n).length : Int) ≤ 3 * ((if F (v (n + 1) / 612) then (v (n + 1) / 9) :: fr12 F v n else fr12 F v n).length : Int) + _
      cases q : F (v (n + 1) / 612) with
      | true =>
        rw [if_pos (Or.inr rfl)]
        simp only [if_true, Bool.not_true, List.length_cons]
        simp only [Bool.false_eq_true, if_false]
        split at ih
        · omega
        · have := Int.emod_lt_of_pos (v n / 9) (show (0 : Int) < 4 by decide)
          omega
      | false =>
        simp only [Bool.not_false, if_true, List.length_cons, Bool.false_eq_true, if_false]
        rw [if_neg (show ¬ (n + 1 = 0 ∨ False) from fun z => z.elim (fun z => by omega) id)]
        have hp := (hv (n + 1) (by omega) hn).2.2.2.2 q
        split at ih
        · omega
        · next z =>
          have z1 : n ≠ 0 := fun e => z (Or.inl e)
          have z2 : F (v n / 612) = false := by
            cases w : F (v n / 612) with
            | true => exact absurd (Or.inr w) z
            | false => rfl
          have := hr n (by omega) (by omega) q z2
          omega
  have a1 : (fr12 F v k).length ≤ 16 * ct12 F 144 := by
    have l1 : ∀ c : Int, ((up12 16).map fun l => 68 * c + 4 * l).length = 16 := fun c => by rw [List.length_map, up12_len]
    rw [← cl12_len (P := F) l1 144]
    refine nd_le12 (fr12_nd hi (Nat.le_refl _)) (fun x hx => ?_)
    obtain ⟨j, a, b, c, d⟩ := fr12_mem hx
    obtain ⟨v0, v1, v2, v3, v4⟩ := hv j a b
    have v3 := v3 d
    refine cl12_mem (c := v j / 612) d ?_ (by omega) (by omega)
    exact List.mem_map.mpr ⟨v j / 36 % 17, up12_mem (by omega) (by omega), by omega⟩
  have a2 : (fr12 (fun c => !(F c)) v k).length ≤ 48 * ct12 (fun c => !(F c)) 144 := by
    have l1 : ∀ c : Int, ((up12 48).map fun l => 68 * c + 4 * (l / 3) + (l % 3 + 1)).length = 48 := fun c => by rw [List.length_map, up12_len]
    rw [← cl12_len (P := fun c => !(F c)) l1 144]
    refine nd_le12 (fr12_nd hi (Nat.le_refl _)) (fun x hx => ?_)
    obtain ⟨j, a, b, c, d⟩ := fr12_mem hx
    obtain ⟨v0, v1, v2, v3, v4⟩ := hv j a b
    have df : F (v j / 612) = false := by
      have d : (!(F (v j / 612))) = true := d
      cases w : F (v j / 612) with
      | true => rw [w] at d; cases d
      | false => rfl
    have v4 := v4 df
    refine cl12_mem (c := v j / 612) d ?_ (by omega) (by omega)
    refine List.mem_map.mpr ⟨3 * (v j / 36 % 17) + (v j / 9 % 4 - 1), up12_mem (by omega) (by omega), ?_⟩
    omega
  have a3 := ct12_two F 144
  have a4 := one k (Nat.le_refl _)
  have a5 := two k (Nat.le_refl _)
  split at a5 <;> omega
