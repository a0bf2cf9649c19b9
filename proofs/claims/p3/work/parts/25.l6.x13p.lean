/-! X13 by hand, the numbers alone: labels in a net, that looking ends, what goes on a way -/
def eb13 (y : Int) : Int := if 0 < y then y - 1 else -y - 1
/-- an arc's ends, price, bound, what goes on it, whether it is done; how many; the one left out -/
abbrev Nt13 : Type := (Int → Int) × (Int → Int) × (Int → Int) × (Int → Int) × (Int → Int) × (Int → Int) × Int × Int
def nbg (N : Nt13) : Int → Int := N.1
def nfn (N : Nt13) : Int → Int := N.2.1
def nmo (N : Nt13) : Int → Int := N.2.2.1
def npr (N : Nt13) : Int → Int := N.2.2.2.1
def nfl (N : Nt13) : Int → Int := N.2.2.2.2.1
def ndn (N : Nt13) : Int → Int := N.2.2.2.2.2.1
def nA (N : Nt13) : Int := N.2.2.2.2.2.2.1
def nwo (N : Nt13) : Int := N.2.2.2.2.2.2.2
def pa13 (N : Nt13) (y : Int) : Int := if 0 < y then nbg N (eb13 y) else nfn N (eb13 y)
def co13 (N : Nt13) (y : Int) : Int := if 0 < y then npr N (eb13 y) else -npr N (eb13 y)
def ro13 (N : Nt13) (y : Int) : Int := if 0 < y then nmo N (eb13 y) - nfl N (eb13 y) else nfl N (eb13 y)
def NR13 (N : Nt13) : Prop := (0 ≤ nA N ∧ nA N ≤ 140) ∧ ∀ e : Int, 0 ≤ e → e < nA N → (0 ≤ nbg N e ∧ nbg N e ≤ 33) ∧ (0 ≤ nfn N e ∧ nfn N e ≤ 33) ∧ 0 ≤ npr N e ∧ npr N e ≤ 300000
/-- by this a node can be come to -/
def EO13 (N : Nt13) (v y : Int) : Prop := y ≠ 0 ∧ (0 ≤ eb13 y ∧ eb13 y < nA N) ∧ eb13 y ≠ nwo N ∧ ndn N (eb13 y) = 0 ∧ (0 < y → nfn N (eb13 y) = v) ∧ (¬ 0 < y → nbg N (eb13 y) = v) ∧ 0 < ro13 N y
def PV13 (N : Nt13) (π : Int → Int) : Prop := ∀ v y : Int, EO13 N v y → π v ≤ π (pa13 N y) + co13 N y
theorem EO13.b {N : Nt13} (r : NR13 N) {v y : Int} (e : EO13 N v y) : (0 ≤ v ∧ v ≤ 33) ∧ (0 ≤ pa13 N y ∧ pa13 N y ≤ 33) ∧ -300000 ≤ co13 N y ∧ co13 N y ≤ 300000 := by
  obtain ⟨e1, e2, e3, e4, e5, e6, e7⟩ := e
  obtain ⟨a, b, c⟩ := r.2 (eb13 y) e2.1 e2.2
  unfold pa13 co13
  by_cases p : 0 < y
  · rw [if_pos p, if_pos p, ← e5 p]
    exact ⟨b, a, by omega, by omega⟩
  · rw [if_neg p, if_neg p, ← e6 p]
    exact ⟨a, b, by omega, by omega⟩
def M50 : Int := 1125899906842624
/-- labels as they come about; π: what shows that no ring costs less than nothing -/
def WI13 (N : Nt13) (π : Int → Int) (fr : Int) (fa by' : Int → Int) : Prop := (fa fr = 0 ∧ by' fr = 0) ∧ (∀ v : Int, 0 ≤ v → v ≤ 33 → fa v ≤ M50 ∧ (fa v < M50 → v ≠ fr → by' v ≠ 0) ∧ (fa v < M50 → π v - π fr ≤ fa v)) ∧
  (∀ v : Int, 0 ≤ v → v ≤ 33 → by' v ≠ 0 → EO13 N v (by' v) ∧ fa v < M50 ∧ fa (pa13 N (by' v)) < M50 ∧ fa (pa13 N (by' v)) + co13 N (by' v) ≤ fa v) ∧
  ∃ r : Int → Int, (∀ v, 0 ≤ r v) ∧ ∀ v : Int, 0 ≤ v → v ≤ 33 → by' v ≠ 0 → r (pa13 N (by' v)) < r v
theorem WI13.set {N : Nt13} {π : Int → Int} {fr : Int} {fa by' fa2 by2 : Int → Int} (nr : NR13 N) (pv : PV13 N π) (hf : 0 ≤ fr ∧ fr ≤ 33) (w : WI13 N π fr fa by') {b y : Int} (eo : EO13 N b y) (hp : fa (pa13 N y) < M50) (hl : fa (pa13 N y) + co13 N y < fa b)
    (h1 : ∀ v : Int, 0 ≤ v → fa2 v = if v = b then fa (pa13 N y) + co13 N y else fa v) (h2 : ∀ v : Int, 0 ≤ v → by2 v = if v = b then y else by' v) : WI13 N π fr fa2 by2 := by
  obtain ⟨⟨w1, w2⟩, w3, w4, r, r0, r1⟩ := w
  obtain ⟨bb, pb, cb⟩ := eo.b nr
  have pq := pv b y eo
  have lo : π (pa13 N y) - π fr ≤ fa (pa13 N y) := (w3 _ pb.1 pb.2).2.2 hp
  have ne : b ≠ fr := fun q => by
    rw [q] at pq hl
    omega
  have na : pa13 N y ≠ b := fun q => by
    rw [q] at pq hl
    omega
  have lt : fa2 b < M50 := by
    rw [h1 b bb.1, if_pos rfl]
    have := (w3 b bb.1 bb.2).1
    omega
  have e1 : ∀ v : Int, 0 ≤ v → fa2 v ≤ fa v := fun v v0 => by
    rw [h1 v v0]
    by_cases q : v = b
    · rw [if_pos q, q]; omega
    · rw [if_neg q]; exact Int.le_refl _
  refine ⟨⟨by rw [h1 fr hf.1, if_neg (fun q => ne q.symm)]; exact w1, by rw [h2 fr hf.1, if_neg (fun q => ne q.symm)]; exact w2⟩, fun v v0 v1 => ?_, fun v v0 v1 hv => ?_, ?_⟩
  · obtain ⟨a1, a2, a3⟩ := w3 v v0 v1
    rw [h1 v v0, h2 v v0]
    by_cases q : v = b
    · rw [if_pos q, if_pos q, q]
      have := (w3 b bb.1 bb.2).1
      exact ⟨by omega, fun _ _ => eo.1, fun _ => by omega⟩
    · rw [if_neg q, if_neg q]
      exact ⟨a1, a2, a3⟩
  · rw [h2 v v0] at hv ⊢
    by_cases q : v = b
    · rw [if_pos q] at hv ⊢
      rw [q]
      rw [h1 b bb.1, if_pos rfl, h1 _ pb.1, if_neg na]
      have := (w3 b bb.1 bb.2).1
      exact ⟨eo, by omega, hp, Int.le_refl _⟩
    · rw [if_neg q] at hv ⊢
      obtain ⟨c1, c2, c3, c4⟩ := w4 v v0 v1 hv
      have pb2 := (c1.b nr).2.1
      have l1 := e1 v v0
      have l2 := e1 _ pb2.1
      rw [h1 v v0, if_neg q] at l1 ⊢
      exact ⟨c1, c2, by omega, by omega⟩
  · refine ⟨fun v => if v = b ∨ (by' v ≠ 0 ∧ fa b - π b ≤ fa v - π v) then r v + (r (pa13 N y) + 1) else r v, fun v => ?_, fun v v0 v1 hv => ?_⟩
    · have z1 := r0 v
      have z2 := r0 (pa13 N y)
      show 0 ≤ (if v = b ∨ (by' v ≠ 0 ∧ fa b - π b ≤ fa v - π v) then r v + (r (pa13 N y) + 1) else r v)
      split <;> omega
    · have z0 := r0 (pa13 N y)
      rw [h2 v v0] at hv ⊢
      by_cases q : v = b
      · rw [if_pos q]
        rw [q]
        show (if pa13 N y = b ∨ (by' (pa13 N y) ≠ 0 ∧ fa b - π b ≤ fa (pa13 N y) - π (pa13 N y)) then r (pa13 N y) + (r (pa13 N y) + 1) else r (pa13 N y)) < (if b = b ∨ (by' b ≠ 0 ∧ fa b - π b ≤ fa b - π b) then r b + (r (pa13 N y) + 1) else r b)
        rw [if_neg (fun z => z.elim na fun z => by omega), if_pos (Or.inl rfl)]
        have := r0 b
        omega
      · rw [if_neg q] at hv ⊢
        obtain ⟨c1, c2, c3, c4⟩ := w4 v v0 v1 hv
        have pq2 := pv v _ c1
        have lt2 := r1 v v0 v1 hv
        show (if pa13 N (by' v) = b ∨ (by' (pa13 N (by' v)) ≠ 0 ∧ fa b - π b ≤ fa (pa13 N (by' v)) - π (pa13 N (by' v))) then r (pa13 N (by' v)) + (r (pa13 N y) + 1) else r (pa13 N (by' v))) < (if v = b ∨ (by' v ≠ 0 ∧ fa b - π b ≤ fa v - π v) then r v + (r (pa13 N y) + 1) else r v)
        by_cases s : pa13 N (by' v) = b ∨ (by' (pa13 N (by' v)) ≠ 0 ∧ fa b - π b ≤ fa (pa13 N (by' v)) - π (pa13 N (by' v)))
        · rw [if_pos s, if_pos (Or.inr ⟨hv, by
            rcases s with s | s
            · rw [s] at pq2 c4; omega
            · omega⟩)]
          omega
        · rw [if_neg s]
          split <;> omega
/-- how far below nothing a label can be -/
theorem WI13.low {N : Nt13} {π : Int → Int} {fr : Int} {fa by' : Int → Int} (nr : NR13 N) (w : WI13 N π fr fa by') : ∀ v : Int, 0 ≤ v → v ≤ 33 → -10200000 ≤ fa v := by
  obtain ⟨⟨w1, w2⟩, w3, w4, r, r0, r1⟩ := w
  -- how many are before it
  have cn : ∀ v : Int, 0 ≤ sm12 (fun u => if r u < r v then 1 else 0) 34 ∧ sm12 (fun u => if r u < r v then 1 else 0) 34 ≤ 34 := fun v => by
    refine ⟨sm12_nn fun j _ _ => ?_, ?_⟩
    · show (0 : Int) ≤ if r j < r v then 1 else 0
      split <;> omega
    · have : sm12 (fun u => if r u < r v then 1 else 0) 34 ≤ sm12 (fun _ => 1) 34 := sm12_le fun j _ _ => by
        show (if r j < r v then (1 : Int) else 0) ≤ 1
        split <;> omega
      exact this
  have key : ∀ (n : Nat) (v : Int), 0 ≤ v → v ≤ 33 → fa v < M50 → r v < (n : Int) → -(300000 * sm12 (fun u => if r u < r v then 1 else 0) 34) ≤ fa v := by
    intro n
    induction n with
    | zero => intro v _ _ _ h; have := r0 v; omega
    | succ n ih =>
      intro v v0 v1 hv hr
      by_cases q : v = fr
      · have := (cn v).1
        rw [q] at this ⊢
        rw [w1]
        omega
      · have hb := (w3 v v0 v1).2.1 hv q
        obtain ⟨c1, c2, c3, c4⟩ := w4 v v0 v1 hb
        obtain ⟨_, pb, cb⟩ := c1.b nr
        have lt := r1 v v0 v1 hb
        have h1 := ih _ pb.1 pb.2 c3 (by omega)
        have h2 : sm12 (fun u => if r u < r (pa13 N (by' v)) then 1 else 0) 34 < sm12 (fun u => if r u < r v then 1 else 0) 34 := by
          refine sm12_lt (i := pa13 N (by' v)) pb.1 ?_ (by omega) (fun j _ _ => ?_)
          · show (if r (pa13 N (by' v)) < r (pa13 N (by' v)) then (1 : Int) else 0) < if r (pa13 N (by' v)) < r v then 1 else 0
            rw [if_neg (Int.lt_irrefl _), if_pos lt]
            decide
          · show (if r j < r (pa13 N (by' v)) then (1 : Int) else 0) ≤ if r j < r v then 1 else 0
            split
            · rw [if_pos (by omega)]; exact Int.le_refl _
            · split <;> omega
        omega
  intro v v0 v1
  by_cases q : fa v < M50
  · have := key ((r v).toNat + 1) v v0 v1 q (by have := r0 v; omega)
    have := (cn v).2
    omega
  · unfold M50 at q
    omega
/-- nothing more can be made less -/
def NI13 (N : Nt13) (fa : Int → Int) (e : Int) : Prop := ∀ v y : Int, EO13 N v y → eb13 y = e → fa (pa13 N y) < M50 → fa v ≤ fa (pa13 N y) + co13 N y
def FX13 (N : Nt13) (fa : Int → Int) : Prop := ∀ v y : Int, EO13 N v y → fa (pa13 N y) < M50 → fa v ≤ fa (pa13 N y) + co13 N y
theorem FX13.of {N : Nt13} {fa : Int → Int} (h : ∀ e : Int, 0 ≤ e → e < nA N → NI13 N fa e) : FX13 N fa := fun v y eo => h (eb13 y) eo.2.1.1 eo.2.1.2 v y eo rfl
/-- a sum in which one changes -/
theorem sm12_set {f g : Int → Int} {i : Int} (i0 : 0 ≤ i) (e : ∀ j : Int, 0 ≤ j → j ≠ i → g j = f j) : ∀ {n : Nat}, (i < (n : Int) → sm12 g n = sm12 f n + (g i - f i)) ∧ (¬ i < (n : Int) → sm12 g n = sm12 f n)
  | 0 => ⟨fun h => by omega, fun _ => rfl⟩
  | n + 1 => by
    obtain ⟨a, b⟩ := sm12_set i0 e (n := n)
    refine ⟨fun h => ?_, fun h => ?_⟩
    · show sm12 g n + g (n : Int) = sm12 f n + f (n : Int) + (g i - f i)
      by_cases q : i = (n : Int)
      · rw [b (by omega), q]
        omega
      · rw [a (by omega), e _ (by omega) (fun z => q z.symm)]
        omega
    · show sm12 g n + g (n : Int) = sm12 f n + f (n : Int)
      rw [b (by omega), e _ (by omega) (by omega)]
/-- the way back from a node -/
def pt13 (N : Nt13) (by' : Int → Int) (to : Int) : Nat → Int
  | 0 => to
  | n + 1 => pa13 N (by' (pt13 N by' to n))
/-- a way of so many moves -/
def Pt13 (N : Nt13) (by' : Int → Int) (fr to : Int) (n : Nat) : Prop := ∀ i : Nat, i < n → pt13 N by' to i ≠ fr ∧ by' (pt13 N by' to i) ≠ 0 ∧ (0 ≤ pt13 N by' to i ∧ pt13 N by' to i ≤ 33)
theorem Pt13.dis {N : Nt13} {π : Int → Int} {fr to : Int} {fa by' : Int → Int} {n : Nat} (w : WI13 N π fr fa by') (p : Pt13 N by' fr to n) : ∀ i j : Nat, i < j → j ≤ n → pt13 N by' to i ≠ pt13 N by' to j := by
  obtain ⟨_, _, _, r, r0, r1⟩ := w
  have st : ∀ d i : Nat, i + d ≤ n → 0 < d → r (pt13 N by' to (i + d)) < r (pt13 N by' to i) := by
    intro d
    induction d with
    | zero => intro i _ h; omega
    | succ d ih =>
      intro i h _
      have q := p (i + d) (by omega)
      have l := r1 _ q.2.2.1 q.2.2.2 q.2.1
      have l : r (pt13 N by' to (i + d + 1)) < r (pt13 N by' to (i + d)) := l
      by_cases z : d = 0
      · subst z
        exact l
      · have := ih i (by omega) (by omega)
        rw [show i + (d + 1) = i + d + 1 by omega]
        omega
  intro i j h hj q
  have := st (j - i) i (by omega) (by omega)
  rw [show i + (j - i) = j by omega, q] at this
  omega
/-- what has gone on an arc when so many moves are done -/
def TC13 (N : Nt13) (by' : Int → Int) (to : Int) (m : Nat) (ls : Int) (fl2 : Int → Int) (g : Int) : Prop :=
  (∃ i : Nat, i < m ∧ by' (pt13 N by' to i) = g + 1 ∧ fl2 g = nfl N g + ls) ∨ (∃ i : Nat, i < m ∧ by' (pt13 N by' to i) = -g - 1 ∧ fl2 g = nfl N g - ls) ∨ ((∀ i : Nat, i < m → by' (pt13 N by' to i) ≠ g + 1 ∧ by' (pt13 N by' to i) ≠ -g - 1) ∧ fl2 g = nfl N g)
theorem eb13_p {g : Int} (h : 0 ≤ g) : eb13 (g + 1) = g ∧ 0 < g + 1 := by
  unfold eb13
  rw [if_pos (by omega)]
  omega
theorem eb13_n {g : Int} (h : 0 ≤ g) : eb13 (-g - 1) = g ∧ ¬ 0 < -g - 1 := by
  unfold eb13
  rw [if_neg (by omega)]
  omega
theorem eb13_is {y : Int} (h : y ≠ 0) : 0 ≤ eb13 y ∧ ((0 < y ∧ y = eb13 y + 1) ∨ (y < 0 ∧ y = -(eb13 y) - 1)) := by
  unfold eb13
  split <;> omega
theorem TC13.step {N : Nt13} {π : Int → Int} {fr to : Int} {fa by' : Int → Int} {n m : Nat} (w : WI13 N π fr fa by') (p : Pt13 N by' fr to n) (hm : m < n) {ls : Int} {fl2 fl3 : Int → Int} (t : ∀ g : Int, 0 ≤ g → TC13 N by' to m ls fl2 g)
    (h : ∀ g : Int, 0 ≤ g → fl3 g = if g = eb13 (by' (pt13 N by' to m)) then fl2 g + (if 0 < by' (pt13 N by' to m) then ls else -ls) else fl2 g) : (∀ g : Int, 0 ≤ g → TC13 N by' to (m + 1) ls fl3 g) ∧ fl2 (eb13 (by' (pt13 N by' to m))) = nfl N (eb13 (by' (pt13 N by' to m))) := by
  have q := p m hm
  obtain ⟨y, hy⟩ : ∃ y, y = by' (pt13 N by' to m) := ⟨_, rfl⟩
  rw [← hy] at h q ⊢
  obtain ⟨y0, ys⟩ := eb13_is q.2.1
  have eo := (w.2.2.1 _ q.2.2.1 q.2.2.2 (by rw [← hy]; exact q.2.1)).1
  rw [← hy] at eo
  -- it has not been touched yet
  have no : ∀ i : Nat, i < m → by' (pt13 N by' to i) ≠ eb13 y + 1 ∧ by' (pt13 N by' to i) ≠ -(eb13 y) - 1 := by
    intro i hi
    have qi := p i (by omega)
    have ei := (w.2.2.1 _ qi.2.2.1 qi.2.2.2 qi.2.1).1
    have nx : pt13 N by' to (i + 1) = pa13 N (by' (pt13 N by' to i)) := rfl
    have ny : pt13 N by' to (m + 1) = pa13 N y := by rw [hy]; rfl
    have d1 := p.dis w i m hi (by omega)
    have d2 := p.dis w i (m + 1) (by omega) (by omega)
    refine ⟨fun z => ?_, fun z => ?_⟩
    · rw [z] at ei nx
      obtain ⟨a1, a2⟩ := eb13_p y0
      have e5 := ei.2.2.2.2.1 a2
      rw [a1] at e5
      rcases ys with ⟨s1, s2⟩ | ⟨s1, s2⟩
      · exact d1 (e5.symm.trans (eo.2.2.2.2.1 s1))
      · unfold pa13 at ny
        rw [if_neg (by omega)] at ny
        exact d2 (e5.symm.trans ny.symm)
    · rw [z] at ei nx
      obtain ⟨a1, a2⟩ := eb13_n y0
      have e5 := ei.2.2.2.2.2.1 a2
      rw [a1] at e5
      rcases ys with ⟨s1, s2⟩ | ⟨s1, s2⟩
      · unfold pa13 at ny
        rw [if_pos s1] at ny
        exact d2 (e5.symm.trans ny.symm)
      · exact d1 (e5.symm.trans (eo.2.2.2.2.2.1 (by omega)))
  have un : fl2 (eb13 y) = nfl N (eb13 y) := by
    rcases t (eb13 y) y0 with ⟨i, i1, i2, _⟩ | ⟨i, i1, i2, _⟩ | ⟨_, i2⟩
    · exact absurd i2 (no i i1).1
    · exact absurd i2 (no i i1).2
    · exact i2
  refine ⟨fun g g0 => ?_, un⟩
  by_cases z : g = eb13 y
  · have hg := h g g0
    rw [if_pos z] at hg
    rcases ys with ⟨s1, s2⟩ | ⟨s1, s2⟩
    · refine Or.inl ⟨m, by omega, by rw [← hy, z]; exact s2, ?_⟩
      rw [hg, if_pos s1, z, un]
    · refine Or.inr (Or.inl ⟨m, by omega, by rw [← hy, z]; exact s2, ?_⟩)
      rw [hg, if_neg (by omega), z, un]
      omega
  · have hg := h g g0
    rw [if_neg z] at hg
    rcases t g g0 with ⟨i, i1, i2, i3⟩ | ⟨i, i1, i2, i3⟩ | ⟨i1, i2⟩
    · exact Or.inl ⟨i, by omega, i2, by rw [hg]; exact i3⟩
    · exact Or.inr (Or.inl ⟨i, by omega, i2, by rw [hg]; exact i3⟩)
    · refine Or.inr (Or.inr ⟨fun i hi => ?_, by rw [hg]; exact i2⟩)
      by_cases x : i = m
      · rw [x, ← hy]
        obtain ⟨a1, a2⟩ := eb13_p g0
        obtain ⟨b1, b2⟩ := eb13_n g0
        exact ⟨fun c => z (by rw [c, a1]), fun c => z (by rw [c, b1])⟩
      · exact i1 i (by omega)
