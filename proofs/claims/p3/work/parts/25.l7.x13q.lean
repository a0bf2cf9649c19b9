/-! X13 by hand, the numbers alone, second part: what a way changes -/
theorem sm12_ge {f : Int → Int} {C i : Int} (c0 : 0 ≤ C) (i0 : 0 ≤ i) : ∀ {n : Nat}, (∀ j : Int, 0 ≤ j → j < (n : Int) → -C ≤ f j) → (i < (n : Int) → f i - C * (n : Int) ≤ sm12 f n) ∧ -(C * (n : Int)) ≤ sm12 f n
  | 0, _ => ⟨fun h => by omega, by show -(C * ((0 : Nat) : Int)) ≤ 0; rw [show ((0 : Nat) : Int) = 0 from rfl, Int.mul_zero]; decide⟩
  | n + 1, h => by
    obtain ⟨a, b⟩ := sm12_ge c0 i0 (n := n) (fun j x y => h j x (by omega))
    have hn := h (n : Int) (by omega) (by omega)
    have e : C * (((n + 1 : Nat)) : Int) = C * (n : Int) + C := by rw [show (((n + 1 : Nat)) : Int) = (n : Int) + 1 by omega, Int.mul_add, Int.mul_one]
    rw [e]
    refine ⟨fun l => ?_, ?_⟩
    · show f i - (C * (n : Int) + C) ≤ sm12 f n + f (n : Int)
      by_cases q : i = (n : Int)
      · rw [q]; omega
      · have := a (by omega)
        omega
    · show -(C * (n : Int) + C) ≤ sm12 f n + f (n : Int)
      omega
theorem sm12_one {f : Int → Int} {i : Int} (i0 : 0 ≤ i) {n : Nat} (l : i < (n : Int)) (h : ∀ j : Int, 0 ≤ j → j < (n : Int) → 0 ≤ f j) : f i ≤ sm12 f n := by
  have := (sm12_ge (f := f) (C := 0) (Int.le_refl _) i0 (n := n) (fun j a b => by have := h j a b; omega)).1 l
  rw [Int.zero_mul] at this
  omega
section
variable {N : Nt13} {π : Int → Int} {fr to : Int} {fa by' : Int → Int}
theorem WI13.up (nr : NR13 N) (w : WI13 N π fr fa by') (fx : FX13 N fa) : ∀ v : Int, 0 ≤ v → v ≤ 33 → fa v < M50 → fa v ≤ 10200000 := by
  obtain ⟨⟨w1, w2⟩, w3, w4, r, r0, r1⟩ := w
  have cn : ∀ v : Int, 0 ≤ sm12 (fun u => if r u < r v then 1 else 0) 34 ∧ sm12 (fun u => if r u < r v then 1 else 0) 34 ≤ 34 := fun v => by
    refine ⟨sm12_nn fun j _ _ => ?_, ?_⟩
    · show (0 : Int) ≤ if r j < r v then 1 else 0
      split <;> omega
    · have : sm12 (fun u => if r u < r v then 1 else 0) 34 ≤ sm12 (fun _ => 1) 34 := sm12_le fun j _ _ => by
        show (if r j < r v then (1 : Int) else 0) ≤ 1
        split <;> omega
      exact this
  have key : ∀ (n : Nat) (v : Int), 0 ≤ v → v ≤ 33 → fa v < M50 → r v < (n : Int) → fa v ≤ 300000 * sm12 (fun u => if r u < r v then 1 else 0) 34 := by
    intro n
    induction n with
    | zero => intro v _ _ _ h; have := r0 v; omega
    | succ n ih =>
      intro v v0 v1 hv hr
      by_cases q : v = fr
      · have := (cn v).1
        rw [q] at this ⊢
        rw [w1]
        omega
      · have hb := (w3 v v0 v1).2.1 hv q
        obtain ⟨c1, c2, c3, c4⟩ := w4 v v0 v1 hb
        have c5 := fx v _ c1 c3
        obtain ⟨_, pb, cb⟩ := c1.b nr
        have lt := r1 v v0 v1 hb
        have h1 := ih _ pb.1 pb.2 c3 (by omega)
        have h2 : sm12 (fun u => if r u < r (pa13 N (by' v)) then 1 else 0) 34 < sm12 (fun u => if r u < r v then 1 else 0) 34 := by
          refine sm12_lt (i := pa13 N (by' v)) pb.1 ?_ (by omega) (fun j _ _ => ?_)
          · show (if r (pa13 N (by' v)) < r (pa13 N (by' v)) then (1 : Int) else 0) < if r (pa13 N (by' v)) < r v then 1 else 0
            rw [if_neg (Int.lt_irrefl _), if_pos lt]
            decide
          · show (if r j < r (pa13 N (by' v)) then (1 : Int) else 0) ≤ if r j < r v then 1 else 0
            split
            · rw [if_pos (by omega)]; exact Int.le_refl _
            · split <;> omega
        omega
  intro v v0 v1 q
  have := key ((r v).toNat + 1) v v0 v1 q (by have := r0 v; omega)
  have := (cn v).2
  omega
/-- on the way all is as tight as can be -/
theorem Pt13.tight {n : Nat} (w : WI13 N π fr fa by') (fx : FX13 N fa) (p : Pt13 N by' fr to n) {i : Nat} (hi : i < n) : EO13 N (pt13 N by' to i) (by' (pt13 N by' to i)) ∧ fa (pt13 N by' to i) < M50 ∧ fa (pa13 N (by' (pt13 N by' to i))) < M50 ∧ fa (pt13 N by' to i) = fa (pa13 N (by' (pt13 N by' to i))) + co13 N (by' (pt13 N by' to i)) := by
  have q := p i hi
  obtain ⟨c1, c2, c3, c4⟩ := w.2.2.1 _ q.2.2.1 q.2.2.2 q.2.1
  have c5 := fx _ _ c1 c3
  exact ⟨c1, c2, c3, by omega⟩
/-- the same net with other numbers on its arcs, and another one left out -/
def nset (N : Nt13) (fl2 : Int → Int) (wo : Int) : Nt13 := (nbg N, nfn N, nmo N, npr N, fl2, ndn N, nA N, wo)
theorem neg_y {y z : Int} (y0 : y ≠ 0) (z0 : z ≠ 0) (e : eb13 y = eb13 z) : y = z ∨ (y = -z ∧ (0 < y ↔ ¬ 0 < z)) := by
  have a := eb13_is y0
  have b := eb13_is z0
  omega
theorem pa_neg {N : Nt13} {z : Int} (z0 : z ≠ 0) : eb13 (-z) = eb13 z ∧ co13 N (-z) = -co13 N z := by
  have e : eb13 (-z) = eb13 z := by unfold eb13; split <;> split <;> omega
  refine ⟨e, ?_⟩
  unfold co13
  rw [e]
  by_cases p : 0 < z
  · rw [if_pos p, if_neg (by omega)]
  · rw [if_neg p, if_pos (by omega)]
    omega
/-- which arcs are touched, and that they keep their bounds -/
theorem TC13.tt {n : Nat} (w : WI13 N π fr fa by') (p : Pt13 N by' fr to n) {ls : Int} {fl2 : Int → Int} {g : Int} (g0 : 0 ≤ g) (t : TC13 N by' to n ls fl2 g) : fl2 g = nfl N g ∨ ∃ i : Nat, i < n ∧ eb13 (by' (pt13 N by' to i)) = g := by
  rcases t with ⟨i, a, b, c⟩ | ⟨i, a, b, c⟩ | ⟨_, c⟩
  · exact Or.inr ⟨i, a, by rw [b]; exact (eb13_p g0).1⟩
  · exact Or.inr ⟨i, a, by rw [b]; exact (eb13_n g0).1⟩
  · exact Or.inl c
theorem TC13.bd {n : Nat} {ls : Int} (p : ∀ i : Nat, i < n → ls ≤ ro13 N (by' (pt13 N by' to i))) {fl2 : Int → Int} {g : Int} (l1 : 0 ≤ ls) (g0 : 0 ≤ g) (t : TC13 N by' to n ls fl2 g) (b : 0 ≤ nfl N g ∧ nfl N g ≤ nmo N g + 1) : 0 ≤ fl2 g ∧ fl2 g ≤ nmo N g + 1 := by
  rcases t with ⟨i, a, b', c⟩ | ⟨i, a, b', c⟩ | ⟨_, c⟩
  · have := p i a
    obtain ⟨e1, e2⟩ := eb13_p g0
    unfold ro13 at this
    rw [b', if_pos e2, e1] at this
    omega
  · have := p i a
    obtain ⟨e1, e2⟩ := eb13_n g0
    unfold ro13 at this
    rw [b', if_neg e2, e1] at this
    omega
  · omega
/-- new potentials: one that is right wherever arcs are touched is right -/
theorem PV13.next {n : Nat} (w : WI13 N π fr fa by') (p : Pt13 N by' fr to n) {ls : Int} {fl2 : Int → Int} (t : ∀ g : Int, 0 ≤ g → TC13 N by' to n ls fl2 g) {π2 : Int → Int} (h1 : ∀ v y : Int, EO13 N v y → π2 v ≤ π2 (pa13 N y) + co13 N y)
    (h2 : ∀ i : Nat, i < n → π2 (pt13 N by' to i) = π2 (pa13 N (by' (pt13 N by' to i))) + co13 N (by' (pt13 N by' to i))) : PV13 (nset N fl2 (nwo N)) π2 := by
  intro v y eo
  obtain ⟨y0, e1, e2, e3, e4, e5, e6⟩ := eo
  show π2 v ≤ π2 (pa13 N y) + co13 N y
  rcases (t (eb13 y) e1.1).tt w p e1.1 with q | ⟨i, i1, i2⟩
  · refine h1 v y ⟨y0, e1, e2, e3, e4, e5, ?_⟩
    have e6 : 0 < (if 0 < y then nmo N (eb13 y) - fl2 (eb13 y) else fl2 (eb13 y)) := e6
    rw [q] at e6
    exact e6
  · have z := h2 i i1
    have pi := p i i1
    have eo := (w.2.2.1 _ pi.2.2.1 pi.2.2.2 pi.2.1).1
    obtain ⟨x, hx⟩ : ∃ x, x = by' (pt13 N by' to i) := ⟨_, rfl⟩
    rw [← hx] at z i2 eo pi
    rcases neg_y y0 pi.2.1 i2.symm with q | ⟨q, q2⟩
    · have vv : v = pt13 N by' to i := by
        by_cases s : 0 < y
        · rw [← e4 s, q]; exact eo.2.2.2.2.1 (q ▸ s)
        · rw [← e5 s, q]; exact eo.2.2.2.2.2.1 (q ▸ s)
      rw [vv, q, z]
      exact Int.le_refl _
    · obtain ⟨n1, n2⟩ := pa_neg (N := N) pi.2.1
      have v1 : pa13 N x = v := by
        unfold pa13
        by_cases s : 0 < x
        · rw [if_pos s, i2]
          exact e5 (by omega)
        · rw [if_neg s, i2]
          exact e4 (by omega)
      have v2 : pa13 N y = pt13 N by' to i := by
        unfold pa13
        by_cases s : 0 < y
        · rw [if_pos s, ← i2]
          exact eo.2.2.2.2.2.1 (by omega)
        · rw [if_neg s, ← i2]
          exact eo.2.2.2.2.1 (by omega)
      rw [v2, z, v1, q, n2]
      omega
/-- after all has gone by a cheapest way -/
theorem PV13.all {n : Nat} (nr : NR13 N) (pv : PV13 N π) (w : WI13 N π fr fa by') (fx : FX13 N fa) (p : Pt13 N by' fr to n) {ls : Int} {fl2 : Int → Int} (t : ∀ g : Int, 0 ≤ g → TC13 N by' to n ls fl2 g) : ∃ π2, PV13 (nset N fl2 (nwo N)) π2 := by
  obtain ⟨X, hX⟩ : ∃ X : Int, ∀ u : Int, 0 ≤ u → u ≤ 33 → fa u - π u ≤ X := by
    refine ⟨sm12 (fun u => ((fa u - π u).natAbs : Int)) 34, fun u u0 u1 => ?_⟩
    have := sm12_one (f := fun u => ((fa u - π u).natAbs : Int)) u0 (n := 34) (by omega) (fun j _ _ => by show (0 : Int) ≤ ((fa j - π j).natAbs : Int); omega)
    have : ((fa u - π u).natAbs : Int) ≤ sm12 (fun u => ((fa u - π u).natAbs : Int)) 34 := this
    omega
  refine ⟨fun v => if fa v < M50 then fa v else π v + X, PV13.next w p t (fun v y eo => ?_) (fun i hi => ?_)⟩
  · obtain ⟨bb, pb, cb⟩ := eo.b nr
    have pq := pv v y eo
    show (if fa v < M50 then fa v else π v + X) ≤ (if fa (pa13 N y) < M50 then fa (pa13 N y) else π (pa13 N y) + X) + co13 N y
    by_cases q : fa (pa13 N y) < M50
    · have f := fx v y eo q
      have u := w.up nr fx _ pb.1 pb.2 q
      have : fa v < M50 := by unfold M50; omega
      rw [if_pos q, if_pos this]
      exact f
    · rw [if_neg q]
      have x := hX v bb.1 bb.2
      split <;> omega
  · obtain ⟨a, b, c, d⟩ := p.tight w fx hi
    show (if fa (pt13 N by' to i) < M50 then fa (pt13 N by' to i) else π (pt13 N by' to i) + X) = (if fa (pa13 N (by' (pt13 N by' to i))) < M50 then fa (pa13 N (by' (pt13 N by' to i))) else π (pa13 N (by' (pt13 N by' to i))) + X) + co13 N (by' (pt13 N by' to i))
    rw [if_pos b, if_pos c]
    exact d
/-- after something has gone round a ring that costs nothing -/
theorem PV13.ring {n : Nat} (nr : NR13 N) (pv : PV13 N π) (w : WI13 N π fr fa by') (fx : FX13 N fa) (p : Pt13 N by' fr to n) (d0 : fa to - π to + π fr = 0) {ls : Int} {fl2 : Int → Int} (t : ∀ g : Int, 0 ≤ g → TC13 N by' to n ls fl2 g) : PV13 (nset N fl2 (nwo N)) π := by
  have D : ∀ i : Nat, i ≤ n → fa (pt13 N by' to i) - π (pt13 N by' to i) + π fr = 0 ∧ (i < n → π (pt13 N by' to i) = π (pa13 N (by' (pt13 N by' to i))) + co13 N (by' (pt13 N by' to i)) ∧ fa (pa13 N (by' (pt13 N by' to i))) - π (pa13 N (by' (pt13 N by' to i))) + π fr = 0) := by
    have st : ∀ i : Nat, i < n → fa (pt13 N by' to i) - π (pt13 N by' to i) + π fr = 0 → π (pt13 N by' to i) = π (pa13 N (by' (pt13 N by' to i))) + co13 N (by' (pt13 N by' to i)) ∧ fa (pa13 N (by' (pt13 N by' to i))) - π (pa13 N (by' (pt13 N by' to i))) + π fr = 0 := by
      intro i hi h
      obtain ⟨a, b, c, d⟩ := p.tight w fx hi
      have pq := pv _ _ a
      obtain ⟨_, pb, _⟩ := a.b nr
      have lo := (w.2.1 _ pb.1 pb.2).2.2 c
      omega
    intro i
    induction i with
    | zero => intro _; exact ⟨d0, fun h => st 0 h d0⟩
    | succ i ih =>
      intro h
      have := ((ih (by omega)).2 (by omega)).2
      exact ⟨this, fun h2 => st (i + 1) h2 this⟩
  exact PV13.next w p t pv (fun i hi => ((D i (by omega)).2 hi).1)
/-- arcs at the end that is come to -/
theorem TC13.tto {n : Nat} (w : WI13 N π fr fa by') (p : Pt13 N by' fr to n) {ls : Int} {fl2 : Int → Int} (l1 : 0 ≤ ls) {g : Int} (g0 : 0 ≤ g) (t : TC13 N by' to n ls fl2 g) (hg : nfn N g = to) : nfl N g ≤ fl2 g ∧ (0 < n → by' to = g + 1 → fl2 g = nfl N g + ls) := by
  rcases t with ⟨i, a, b, c⟩ | ⟨i, a, b, c⟩ | ⟨a, c⟩
  · exact ⟨by omega, fun _ _ => c⟩
  · exfalso
    have x : pt13 N by' to (i + 1) = to := by
      show pa13 N (by' (pt13 N by' to i)) = to
      unfold pa13
      rw [b, if_neg (eb13_n g0).2, (eb13_n g0).1]
      exact hg
    exact p.dis w 0 (i + 1) (by omega) (by omega) x.symm
  · refine ⟨by omega, fun h q => ?_⟩
    exact absurd q (a 0 h).1
/-- arcs at the end that is left -/
theorem TC13.tfr {n : Nat} (w : WI13 N π fr fa by') (p : Pt13 N by' fr to n) (hn : pt13 N by' to n = fr) {ls : Int} {fl2 : Int → Int} {g : Int} (g0 : 0 ≤ g) (t : TC13 N by' to n ls fl2 g) (hg : nfn N g = fr ∨ nbg N g = fr) :
    (eb13 (by' (pt13 N by' to (n - 1))) ≠ g → fl2 g = nfl N g) ∧ (fl2 g = nfl N g ∨ (nbg N g = fr ∧ fl2 g = nfl N g + ls) ∨ (nfn N g = fr ∧ nbg N g ≠ fr ∧ fl2 g = nfl N g - ls)) := by
  rcases t with ⟨i, a, b, c⟩ | ⟨i, a, b, c⟩ | ⟨a, c⟩
  · obtain ⟨e1, e2⟩ := eb13_p g0
    have pi := p i a
    have eo := (w.2.2.1 _ pi.2.2.1 pi.2.2.2 pi.2.1).1
    rw [b] at eo
    have f1 := eo.2.2.2.2.1 e2
    rw [e1] at f1
    have x : pt13 N by' to (i + 1) = nbg N g := by
      show pa13 N (by' (pt13 N by' to i)) = nbg N g
      unfold pa13
      rw [b, if_pos e2, e1]
    have bf : nbg N g = fr := by
      rcases hg with q | q
      · exact absurd (f1.symm.trans q) pi.1
      · exact q
    have last : i + 1 = n := by
      by_cases z : i + 1 = n
      · exact z
      · exact absurd (x.trans (bf.trans hn.symm)) (p.dis w (i + 1) n (by omega) (Nat.le_refl _))
    refine ⟨fun q => absurd ?_ q, Or.inr (Or.inl ⟨bf, c⟩)⟩
    rw [show n - 1 = i by omega, b, e1]
  · obtain ⟨e1, e2⟩ := eb13_n g0
    have pi := p i a
    have eo := (w.2.2.1 _ pi.2.2.1 pi.2.2.2 pi.2.1).1
    rw [b] at eo
    have f1 := eo.2.2.2.2.2.1 e2
    rw [e1] at f1
    have x : pt13 N by' to (i + 1) = nfn N g := by
      show pa13 N (by' (pt13 N by' to i)) = nfn N g
      unfold pa13
      rw [b, if_neg e2, e1]
    have nb : nbg N g ≠ fr := fun q => pi.1 (f1.symm.trans q)
    have bf : nfn N g = fr := hg.resolve_right nb
    have last : i + 1 = n := by
      by_cases z : i + 1 = n
      · exact z
      · exact absurd (x.trans (bf.trans hn.symm)) (p.dis w (i + 1) n (by omega) (Nat.le_refl _))
    refine ⟨fun q => absurd ?_ q, Or.inr (Or.inr ⟨bf, nb, c⟩)⟩
    rw [show n - 1 = i by omega, b, e1]
  · exact ⟨fun _ => c, Or.inl c⟩
end
/-- what comes to a node less what leaves it -/
def ef13 (N : Nt13) (fl : Int → Int) (v g : Int) : Int := if nfn N g = v then fl g else if nbg N g = v then -fl g else 0
def ex13 (N : Nt13) (fl : Int → Int) (v : Int) : Int := sm12 (ef13 N fl v) (nA N).toNat
theorem ex13.step {N : Nt13} {fl fl2 : Int → Int} {v y cur ls : Int} (y0 : y ≠ 0) (hy : eb13 y < nA N) (ne : pa13 N y ≠ cur) (hc : (0 < y → nfn N (eb13 y) = cur) ∧ (¬ 0 < y → nbg N (eb13 y) = cur))
    (h : ∀ g : Int, 0 ≤ g → fl2 g = if g = eb13 y then fl g + (if 0 < y then ls else -ls) else fl g) : ex13 N fl2 v = ex13 N fl v + (if v = cur then ls else 0) - (if v = pa13 N y then ls else 0) := by
  obtain ⟨e0, _⟩ := eb13_is y0
  have a := (sm12_set (f := ef13 N fl v) (g := ef13 N fl2 v) e0 (fun j j0 jn => by
    unfold ef13
    rw [h j j0, if_neg jn]) (n := (nA N).toNat)).1 (by omega)
  have hh := h (eb13 y) e0
  rw [if_pos rfl] at hh
  have E : ef13 N fl2 v (eb13 y) - ef13 N fl v (eb13 y) = (if v = cur then ls else 0) - (if v = pa13 N y then ls else 0) := by
    unfold ef13
    rw [hh]
    unfold pa13 at ne ⊢
    by_cases p : 0 < y
    · have c1 := hc.1 p
      simp only [if_pos p] at ne ⊢
      repeat' split
      all_goals omega
    · have c1 := hc.2 p
      simp only [if_neg p] at ne ⊢
      repeat' split
      all_goals omega
  unfold ex13
  rw [a, E]
  omega
theorem ex13.le {N : Nt13} (nr : NR13 N) {fl : Int → Int} {v e : Int} (x : ex13 N fl v = 0) (h : ∀ g : Int, 0 ≤ g → g < nA N → 0 ≤ fl g ∧ (nbg N g = v → fl g ≤ 1000002)) (e0 : 0 ≤ e) (e1 : e < nA N) (ev : nfn N e = v) : fl e ≤ 140000280 := by
  have a := (sm12_ge (f := ef13 N fl v) (C := 1000002) (by decide) e0 (n := (nA N).toNat) (fun j j0 j1 => by
    have := h j j0 (by omega)
    unfold ef13
    split
    · omega
    · split
      · next q => have := this.2 q; omega
      · omega)).1 (by omega)
  unfold ex13 at x
  rw [x] at a
  have : ef13 N fl v e = fl e := by unfold ef13; rw [if_pos ev]
  rw [this] at a
  have := nr.1
  omega
/-! X13 by hand: the heap's net -/
def N13 (h : MH) (wo : Int) : Nt13 := (ga h 2486, ga h 2487, ga h 2488, ga h 2489, ga h 2490, ga h 2491, ga h 2468 22, wo)
theorem WI13.fwd {N : Nt13} {π : Int → Int} {fr : Int} {fa by' fa2 by2 : Int → Int} (nr : NR13 N) (pv : PV13 N π) (hf : 0 ≤ fr ∧ fr ≤ 33) (w : WI13 N π fr fa by') {e : Int} (e0 : 0 ≤ e) (e1 : e < nA N) (e2 : e ≠ nwo N) (e3 : ndn N e = 0) (e4 : nfl N e < nmo N e) (hp : fa (nbg N e) < M50) (hl : fa (nbg N e) + npr N e < fa (nfn N e))
    (h1 : ∀ v : Int, 0 ≤ v → fa2 v = if v = nfn N e then fa (nbg N e) + npr N e else fa v) (h2 : ∀ v : Int, 0 ≤ v → by2 v = if v = nfn N e then e + 1 else by' v) : WI13 N π fr fa2 by2 := by
  obtain ⟨a, b⟩ := eb13_p e0
  have p : pa13 N (e + 1) = nbg N e := by unfold pa13; rw [if_pos b, a]
  have c : co13 N (e + 1) = npr N e := by unfold co13; rw [if_pos b, a]
  refine w.set nr pv hf (b := nfn N e) (y := e + 1) ⟨by omega, by rw [a]; exact ⟨e0, e1⟩, by rw [a]; exact e2, by rw [a]; exact e3, fun _ => by rw [a], fun z => absurd b z, ?_⟩ (by rw [p]; exact hp) (by rw [p, c]; exact hl) (by rw [p, c]; exact h1) h2
  unfold ro13
  rw [if_pos b, a]
  omega
theorem WI13.bwd {N : Nt13} {π : Int → Int} {fr : Int} {fa by' fa2 by2 : Int → Int} (nr : NR13 N) (pv : PV13 N π) (hf : 0 ≤ fr ∧ fr ≤ 33) (w : WI13 N π fr fa by') {e : Int} (e0 : 0 ≤ e) (e1 : e < nA N) (e2 : e ≠ nwo N) (e3 : ndn N e = 0) (e4 : 0 < nfl N e) (hp : fa (nfn N e) < M50) (hl : fa (nfn N e) - npr N e < fa (nbg N e))
    (h1 : ∀ v : Int, 0 ≤ v → fa2 v = if v = nbg N e then fa (nfn N e) - npr N e else fa v) (h2 : ∀ v : Int, 0 ≤ v → by2 v = if v = nbg N e then -e - 1 else by' v) : WI13 N π fr fa2 by2 := by
  obtain ⟨a, b⟩ := eb13_n e0
  have p : pa13 N (-e - 1) = nfn N e := by unfold pa13; rw [if_neg b, a]
  have c : co13 N (-e - 1) = -npr N e := by unfold co13; rw [if_neg b, a]
  refine w.set nr pv hf (b := nbg N e) (y := -e - 1) ⟨by omega, by rw [a]; exact ⟨e0, e1⟩, by rw [a]; exact e2, by rw [a]; exact e3, fun z => absurd z b, fun _ => by rw [a], ?_⟩ (by rw [p]; exact hp) (by rw [p, c]; omega) (by rw [p, c]; exact h1) h2
  unfold ro13
  rw [if_neg b, a]
  exact e4
theorem NI13.of {N : Nt13} {fa : Int → Int} {e : Int} (f : e ≠ nwo N → ndn N e = 0 → nfl N e < nmo N e → fa (nbg N e) < M50 → fa (nfn N e) ≤ fa (nbg N e) + npr N e) (b : e ≠ nwo N → ndn N e = 0 → 0 < nfl N e → fa (nfn N e) < M50 → fa (nbg N e) ≤ fa (nfn N e) - npr N e) : NI13 N fa e := by
  rintro v y ⟨y0, y1, y2, y3, y4, y5, y6⟩ q hp
  rw [q] at y2 y3 y4 y5
  unfold ro13 at y6
  unfold pa13 at hp ⊢
  unfold co13
  rw [q] at y6 hp ⊢
  by_cases p : 0 < y
  · rw [if_pos p] at y6 hp ⊢
    rw [if_pos p, ← y4 p]
    exact f y2 y3 (by omega) hp
  · rw [if_neg p] at y6 hp ⊢
    rw [if_neg p, ← y5 p]
    have := b y2 y3 y6 hp
    omega
theorem sm_down {f g : Int → Int} {b x : Int} (b0 : 0 ≤ b ∧ b ≤ 33) (h : ∀ v : Int, 0 ≤ v → g v = if v = b then x else f v) (l : x < f b) : sm12 g 34 < sm12 f 34 := by
  refine sm12_lt (i := b) b0.1 ?_ (by omega) (fun j j0 _ => ?_)
  · rw [h b b0.1, if_pos rfl]; exact l
  · rw [h j j0]
    split
    · next q => rw [q]; omega
    · exact Int.le_refl _
theorem WI13.sm {N : Nt13} {π : Int → Int} {fr : Int} {fa by' : Int → Int} (nr : NR13 N) (w : WI13 N π fr fa by') : -346800000 ≤ sm12 fa 34 := by
  have := (sm12_ge (f := fa) (C := 10200000) (by decide) (i := 0) (Int.le_refl _) (n := 34) (fun j j0 j1 => by have := w.low nr j j0 (by omega); omega)).2
  omega
theorem WI13.ini {N : Nt13} {π : Int → Int} {fr : Int} {fa by' : Int → Int} (h1 : ∀ v : Int, 0 ≤ v → v ≤ 33 → fa v = if v = fr then 0 else M50) (h2 : ∀ v : Int, 0 ≤ v → v ≤ 33 → by' v = 0) (hf : 0 ≤ fr ∧ fr ≤ 33) : WI13 N π fr fa by' := by
  refine ⟨⟨by rw [h1 _ hf.1 hf.2, if_pos rfl], h2 _ hf.1 hf.2⟩, fun v v0 v1 => ?_, fun v v0 v1 q => absurd (h2 v v0 v1) q, fun _ => 0, fun _ => Int.le_refl _, fun v v0 v1 q => absurd (h2 v v0 v1) q⟩
  rw [h1 v v0 v1]
  unfold M50
  split
  · next q => rw [q]; exact ⟨by omega, fun _ z => absurd rfl z, fun _ => by omega⟩
  · exact ⟨by omega, fun z => by omega, fun z => by omega⟩
/-- what is known of a node that is come to -/
theorem WI13.at {N : Nt13} {π : Int → Int} {fr : Int} {fa by' : Int → Int} (nr : NR13 N) (w : WI13 N π fr fa by') {v : Int} (v0 : 0 ≤ v ∧ v ≤ 33) (h : fa v < M50) (n : v ≠ fr) : by' v ≠ 0 ∧ EO13 N v (by' v) ∧ (0 ≤ pa13 N (by' v) ∧ pa13 N (by' v) ≤ 33) ∧ fa (pa13 N (by' v)) < M50 := by
  have b := (w.2.1 v v0.1 v0.2).2.1 h n
  obtain ⟨c1, c2, c3, c4⟩ := w.2.2.1 v v0.1 v0.2 b
  exact ⟨b, c1, (c1.b nr).2.1, c3⟩
def PL13 (N : Nt13) (by' : Int → Int) (fr to v ls : Int) : Prop := ∃ n : Nat, v = pt13 N by' to n ∧ Pt13 N by' fr to n ∧ ∀ i : Nat, i < n → ls ≤ ro13 N (by' (pt13 N by' to i))
theorem PL13.next {N : Nt13} {by' : Int → Int} {fr to v ls ls2 : Int} (p : PL13 N by' fr to v ls) (v0 : 0 ≤ v ∧ v ≤ 33) (n : v ≠ fr) (b : by' v ≠ 0) (l : ls2 ≤ ls) (r : ls2 ≤ ro13 N (by' v)) : PL13 N by' fr to (pa13 N (by' v)) ls2 := by
  obtain ⟨k, e, p1, p2⟩ := p
  refine ⟨k + 1, by rw [e]; rfl, fun i hi => ?_, fun i hi => ?_⟩
  · by_cases q : i = k
    · rw [q, ← e]
      exact ⟨n, b, v0⟩
    · exact p1 i (by omega)
  · by_cases q : i = k
    · rw [q, ← e]
      exact r
    · have := p2 i (by omega)
      omega
def PM13 (N : Nt13) (by' : Int → Int) (to : Int) (n : Nat) (ls : Int) (fl : Int → Int) (v : Int) : Prop := ∃ m : Nat, m ≤ n ∧ v = pt13 N by' to m ∧ (∀ g : Int, 0 ≤ g → TC13 N by' to m ls fl g) ∧ ∀ u : Int, ex13 N fl u = ex13 N (nfl N) u + (if u = to then ls else 0) - (if u = v then ls else 0)
theorem PM13.un {N : Nt13} {π : Int → Int} {by' fa : Int → Int} {fr to : Int} {n : Nat} {ls : Int} {fl : Int → Int} {v : Int} (w : WI13 N π fr fa by') (p : Pt13 N by' fr to n) (hn : pt13 N by' to n = fr) (m : PM13 N by' to n ls fl v) (ne : v ≠ fr) : fl (eb13 (by' v)) = nfl N (eb13 (by' v)) ∧ ∃ i : Nat, i < n ∧ v = pt13 N by' to i := by
  obtain ⟨k, k1, e, t, _⟩ := m
  have kn : k < n := by
    by_cases q : k = n
    · rw [q, hn] at e
      exact absurd e ne
    · omega
  refine ⟨?_, k, kn, e⟩
  rw [e]
  exact (TC13.step w p kn t (fl3 := fun g => if g = eb13 (by' (pt13 N by' to k)) then fl g + (if 0 < by' (pt13 N by' to k) then ls else -ls) else fl g) (fun g _ => rfl)).2
theorem PM13.next {N : Nt13} {π : Int → Int} {by' fa : Int → Int} {fr to : Int} {n : Nat} {ls : Int} {fl fl3 : Int → Int} {v : Int} (w : WI13 N π fr fa by') (p : Pt13 N by' fr to n) (hn : pt13 N by' to n = fr) (m : PM13 N by' to n ls fl v) (ne : v ≠ fr)
    (h : ∀ g : Int, 0 ≤ g → fl3 g = if g = eb13 (by' v) then fl g + (if 0 < by' v then ls else -ls) else fl g) : PM13 N by' to n ls fl3 (pa13 N (by' v)) := by
  obtain ⟨k, k1, e, t, x⟩ := m
  have kn : k < n := by
    by_cases q : k = n
    · rw [q, hn] at e
      exact absurd e ne
    · omega
  have pk := p k kn
  have eo := (w.2.2.1 _ pk.2.2.1 pk.2.2.2 pk.2.1).1
  have dd := p.dis w k (k + 1) (by omega) (by omega)
  have dd : pt13 N by' to k ≠ pa13 N (by' (pt13 N by' to k)) := dd
  rw [← e] at pk eo dd
  refine ⟨k + 1, kn, by rw [e]; rfl, (TC13.step w p kn t (by rw [← e]; exact h)).1, fun u => ?_⟩
  rw [ex13.step (y := by' v) (cur := v) (ls := ls) pk.2.1 eo.2.1.2 dd.symm ⟨eo.2.2.2.2.1, eo.2.2.2.2.2.1⟩ h, x u]
  omega
/-- the net's numbers keep within their bounds -/
def NB13 (h : MH) : Prop := ∀ e : Int, 0 ≤ e → e < ga h 2468 22 → (0 ≤ ga h 2490 e ∧ ga h 2490 e ≤ ga h 2488 e + 1) ∧ ga h 2488 e ≤ 1125899906842624
/-- what a way that is gone leaves -/
def GO13 (h h' : MH) (wo fr to v : Int) : Prop := ∃ n : Nat, Pt13 (N13 h wo) (ga h 2493) fr to n ∧ pt13 (N13 h wo) (ga h 2493) to n = fr ∧ (∀ i : Nat, i < n → v ≤ ro13 (N13 h wo) (ga h 2493 (pt13 (N13 h wo) (ga h 2493) to i))) ∧ (∀ g : Int, 0 ≤ g → TC13 (N13 h wo) (ga h 2493) to n v (ga h' 2490) g) ∧ ∀ u : Int, ex13 (N13 h wo) (ga h' 2490) u = ex13 (N13 h wo) (ga h 2490) u + (if u = to then v else 0) - (if u = fr then v else 0)
/-! X13 by hand: nets of heaps that differ -/
theorem N13.eq {h h' : MH} (e : ∀ c ∈ ([2486, 2487, 2488, 2489, 2490, 2491] : List Nat), ga h' c = ga h c) (a : ga h' 2468 22 = ga h 2468 22) (wo : Int) : N13 h' wo = N13 h wo := by
  unfold N13
  rw [e 2486 (by decide), e 2487 (by decide), e 2488 (by decide), e 2489 (by decide), e 2490 (by decide), e 2491 (by decide), a]
theorem N13.flow {h h' : MH} (o : Only [2490] h h') (wo : Int) : N13 h' wo = nset (N13 h wo) (ga h' 2490) wo := by
  show (ga h' 2486, ga h' 2487, ga h' 2488, ga h' 2489, ga h' 2490, ga h' 2491, ga h' 2468 22, wo) = (ga h 2486, ga h 2487, ga h 2488, ga h 2489, ga h' 2490, ga h 2491, ga h 2468 22, wo)
  rw [onlyF o (by decide), onlyF o (d := 2487) (by decide), onlyF o (d := 2488) (by decide), onlyF o (d := 2489) (by decide), onlyF o (d := 2491) (by decide), o.ga (by decide)]
theorem NR13.keep {h h' : MH} {wo wo' : Int} (r : NR13 (N13 h wo)) (e : ∀ c ∈ ([2486, 2487, 2489] : List Nat), ga h' c = ga h c) (a : ga h' 2468 22 = ga h 2468 22) : NR13 (N13 h' wo') := by
  have r : (0 ≤ ga h 2468 22 ∧ ga h 2468 22 ≤ 140) ∧ ∀ e : Int, 0 ≤ e → e < ga h 2468 22 → (0 ≤ ga h 2486 e ∧ ga h 2486 e ≤ 33) ∧ (0 ≤ ga h 2487 e ∧ ga h 2487 e ≤ 33) ∧ 0 ≤ ga h 2489 e ∧ ga h 2489 e ≤ 300000 := r
  show (0 ≤ ga h' 2468 22 ∧ ga h' 2468 22 ≤ 140) ∧ ∀ e : Int, 0 ≤ e → e < ga h' 2468 22 → (0 ≤ ga h' 2486 e ∧ ga h' 2486 e ≤ 33) ∧ (0 ≤ ga h' 2487 e ∧ ga h' 2487 e ≤ 33) ∧ 0 ≤ ga h' 2489 e ∧ ga h' 2489 e ≤ 300000
  rw [e 2486 (by decide), e 2487 (by decide), e 2489 (by decide), a]
  exact r
theorem NB13.keep {h h' : MH} (r : NB13 h) (e : ∀ c ∈ ([2488, 2490] : List Nat), ga h' c = ga h c) (a : ga h' 2468 22 = ga h 2468 22) : NB13 h' := by
  unfold NB13 at *
  rw [e 2488 (by decide), e 2490 (by decide), a]
  exact r
theorem NB13.go {h h' : MH} {wo fr to v : Int} (nb : NB13 h) (o : Only [2490] h h') (g : GO13 h h' wo fr to v) (v1 : 1 ≤ v) : NB13 h' := by
  obtain ⟨n, p, hn, pr, t, x⟩ := g
  intro e e0 e1
  rw [o.ga (by decide)] at e1
  have b := nb e e0 e1
  rw [o.ga (d := 2488) (by decide)]
  exact ⟨TC13.bd (N := N13 h wo) pr (by omega) e0 (t e e0) b.1, b.2⟩
theorem WI13.net {N N' : Nt13} {π : Int → Int} {fr : Int} {fa by' : Int → Int} (e : N' = N) (w : WI13 N π fr fa by') : WI13 N' π fr fa by' := e ▸ w
def M33 (h : MH) : Int := sm12 (fun g => if ga h 2487 g = 33 then ga h 2488 g + 1 - ga h 2490 g else 0) (ga h 2468 22).toNat
theorem M33.nn {h : MH} (nb : NB13 h) : 0 ≤ M33 h := sm12_nn fun j j0 j1 => by
  have := (nb j j0 (by omega)).1
  show 0 ≤ if ga h 2487 j = 33 then ga h 2488 j + 1 - ga h 2490 j else 0
  split <;> omega
theorem M33.keep {h h' : MH} (e : ∀ c ∈ ([2487, 2488, 2490] : List Nat), ga h' c = ga h c) (a : ga h' 2468 22 = ga h 2468 22) : M33 h' = M33 h := by
  unfold M33
  rw [e 2487 (by decide), e 2488 (by decide), e 2490 (by decide), a]
theorem M33.go {h h' : MH} {π : Int → Int} {v : Int} (w : WI13 (N13 h (-1)) π 0 (ga h 2492) (ga h 2493)) (nr : NR13 (N13 h (-1))) (ne : ∀ e : Int, 0 ≤ e → e < ga h 2468 22 → ga h 2486 e ≠ 33) (fm : ga h 2492 33 < M50) (o : Only [2490] h h') (g : GO13 h h' (-1) 0 33 v) (v1 : 1 ≤ v) : M33 h' < M33 h := by
  obtain ⟨n, p, hn, pr, t, x⟩ := g
  obtain ⟨b0, eo, pb, pm⟩ := w.at nr (v := 33) ⟨by decide, by decide⟩ fm (by decide)
  have n0 : 0 < n := by
    by_cases q : n = 0
    · rw [q] at hn
      exact absurd (show (33 : Int) = 0 from hn) (by decide)
    · omega
  have pos : 0 < ga h 2493 33 := by
    by_cases q : 0 < ga h 2493 33
    · exact q
    · have := eo.2.2.2.2.2.1 q
      exact absurd this (ne _ eo.2.1.1 eo.2.1.2)
  have ef := eo.2.2.2.2.1 pos
  have eb : ga h 2493 33 = eb13 (ga h 2493 33) + 1 := by unfold eb13; rw [if_pos pos]; omega
  have f1 := (TC13.tto w p (by omega) eo.2.1.1 (t _ eo.2.1.1) ef).2 n0 eb
  unfold M33
  rw [onlyF o (by decide), onlyF o (d := 2488) (by decide), o.ga (by decide)]
  have eA : eb13 (ga h 2493 33) < ((ga h 2468 22).toNat : Int) := by
    have := eo.2.1.2
    have : eb13 (ga h 2493 33) < ga h 2468 22 := this
    omega
  refine sm12_lt eo.2.1.1 ?_ eA (fun j j0 j1 => ?_)
  · have ef : ga h 2487 (eb13 (ga h 2493 33)) = 33 := ef
    have f1 : ga h' 2490 (eb13 (ga h 2493 33)) = ga h 2490 (eb13 (ga h 2493 33)) + v := f1
    show (if ga h 2487 (eb13 (ga h 2493 33)) = 33 then ga h 2488 (eb13 (ga h 2493 33)) + 1 - ga h' 2490 (eb13 (ga h 2493 33)) else 0) < if ga h 2487 (eb13 (ga h 2493 33)) = 33 then ga h 2488 (eb13 (ga h 2493 33)) + 1 - ga h 2490 (eb13 (ga h 2493 33)) else 0
    rw [if_pos ef, if_pos ef]
    omega
  · show (if ga h 2487 j = 33 then ga h 2488 j + 1 - ga h' 2490 j else 0) ≤ if ga h 2487 j = 33 then ga h 2488 j + 1 - ga h 2490 j else 0
    by_cases q : ga h 2487 j = 33
    · rw [if_pos q, if_pos q]
      have := (TC13.tto w p (by omega) j0 (t j j0) q).1
      have : ga h 2490 j ≤ ga h' 2490 j := this
      omega
    · rw [if_neg q, if_neg q]
      exact Int.le_refl _
/-- what is left of a ring through one arc -/
def PS13 (h : MH) (e c : Int) : Int := sm12 (fun g => if g = e then 0 else if ga h 2487 g = c then ga h 2490 g else if ga h 2486 g = c then ga h 2488 g + 1 - ga h 2490 g else 0) (ga h 2468 22).toNat
theorem PS13.nn {h : MH} (nb : NB13 h) (e c : Int) : 0 ≤ PS13 h e c := sm12_nn fun j j0 j1 => by
  have := (nb j j0 (by omega)).1
  show 0 ≤ if j = e then 0 else if ga h 2487 j = c then ga h 2490 j else if ga h 2486 j = c then ga h 2488 j + 1 - ga h 2490 j else 0
  repeat' split
  all_goals omega
theorem PS13.keep {h h' : MH} {e c : Int} (s : ∀ d ∈ ([2486, 2487, 2488] : List Nat), ga h' d = ga h d) (f : ∀ g : Int, 0 ≤ g → g ≠ e → ga h' 2490 g = ga h 2490 g) (a : ga h' 2468 22 = ga h 2468 22) : PS13 h' e c ≤ PS13 h e c := by
  unfold PS13
  rw [s 2486 (by decide), s 2487 (by decide), s 2488 (by decide), a]
  refine sm12_le fun j j0 _ => ?_
  show (if j = e then 0 else if ga h 2487 j = c then ga h' 2490 j else if ga h 2486 j = c then ga h 2488 j + 1 - ga h' 2490 j else 0) ≤ if j = e then 0 else if ga h 2487 j = c then ga h 2490 j else if ga h 2486 j = c then ga h 2488 j + 1 - ga h 2490 j else 0
  by_cases q : j = e
  · rw [if_pos q, if_pos q]
    exact Int.le_refl _
  · rw [if_neg q, if_neg q, f j j0 q]
    exact Int.le_refl _
theorem PS13.go {h h' : MH} {π : Int → Int} {e c to v : Int} (w : WI13 (N13 h e) π c (ga h 2492) (ga h 2493)) (tc : to ≠ c) (o : Only [2490] h h') (g : GO13 h h' e c to v) (v1 : 1 ≤ v) : PS13 h' e c < PS13 h e c := by
  obtain ⟨n, p, hn, pr, t, x⟩ := g
  have n0 : 0 < n := by
    by_cases q : n = 0
    · rw [q] at hn
      exact absurd hn tc
    · omega
  have pl := p (n - 1) (by omega)
  have eo := (w.2.2.1 _ pl.2.2.1 pl.2.2.2 pl.2.1).1
  obtain ⟨y, hy⟩ : ∃ y, y = ga h 2493 (pt13 (N13 h e) (ga h 2493) to (n - 1)) := ⟨_, rfl⟩
  rw [← hy] at eo pl
  have pc : pa13 (N13 h e) y = c := by
    have z : pt13 (N13 h e) (ga h 2493) to (n - 1 + 1) = pa13 (N13 h e) y := by rw [hy]; rfl
    rw [show n - 1 + 1 = n by omega, hn] at z
    exact z.symm
  have g0 := eo.2.1.1
  have gA : eb13 y < ga h 2468 22 := eo.2.1.2
  have ge : eb13 y ≠ e := eo.2.2.1
  have hg : nfn (N13 h e) (eb13 y) = c ∨ nbg (N13 h e) (eb13 y) = c := by
    unfold pa13 at pc
    by_cases q : 0 < y
    · rw [if_pos q] at pc; exact Or.inr pc
    · rw [if_neg q] at pc; exact Or.inl pc
  have ch := (TC13.tfr w p hn g0 (t _ g0) hg).2
  have nc : ga h' 2490 (eb13 y) ≠ ga h 2490 (eb13 y) := by
    intro q
    have y0 := eb13_is pl.2.1
    rcases t _ g0 with ⟨i, a, b, d⟩ | ⟨i, a, b, d⟩ | ⟨a, d⟩
    · have d : ga h' 2490 (eb13 y) = ga h 2490 (eb13 y) + v := d
      omega
    · have d : ga h' 2490 (eb13 y) = ga h 2490 (eb13 y) - v := d
      omega
    · have := a (n - 1) (by omega)
      rw [← hy] at this
      rcases y0.2 with s | s
      · exact this.1 s.2
      · exact this.2 s.2
  have nfb : ga h 2487 (eb13 y) = c → ga h 2486 (eb13 y) ≠ c := fun a b => by
    by_cases q : 0 < y
    · have := eo.2.2.2.2.1 q
      have : ga h 2487 (eb13 y) = pt13 (N13 h e) (ga h 2493) to (n - 1) := this
      exact pl.1 (this.symm.trans a)
    · have := eo.2.2.2.2.2.1 q
      have : ga h 2486 (eb13 y) = pt13 (N13 h e) (ga h 2493) to (n - 1) := this
      exact pl.1 (this.symm.trans b)
  unfold PS13
  rw [onlyF o (by decide), onlyF o (d := 2486) (by decide), onlyF o (d := 2488) (by decide), o.ga (by decide)]
  refine sm12_lt g0 ?_ (by omega) (fun j j0 j1 => ?_)
  · show (if eb13 y = e then 0 else if ga h 2487 (eb13 y) = c then ga h' 2490 (eb13 y) else if ga h 2486 (eb13 y) = c then ga h 2488 (eb13 y) + 1 - ga h' 2490 (eb13 y) else 0) < if eb13 y = e then 0 else if ga h 2487 (eb13 y) = c then ga h 2490 (eb13 y) else if ga h 2486 (eb13 y) = c then ga h 2488 (eb13 y) + 1 - ga h 2490 (eb13 y) else 0
    rw [if_neg ge, if_neg ge]
    rcases ch with q | ⟨q1, q2⟩ | ⟨q1, q2, q3⟩
    · exact absurd q nc
    · have q1 : ga h 2486 (eb13 y) = c := q1
      have q2 : ga h' 2490 (eb13 y) = ga h 2490 (eb13 y) + v := q2
      have nf : ga h 2487 (eb13 y) ≠ c := fun z => nfb z q1
      rw [if_neg nf, if_neg nf, if_pos q1, if_pos q1]
      omega
    · have q1 : ga h 2487 (eb13 y) = c := q1
      have q3 : ga h' 2490 (eb13 y) = ga h 2490 (eb13 y) - v := q3
      rw [if_pos q1, if_pos q1]
      omega
  · show (if j = e then 0 else if ga h 2487 j = c then ga h' 2490 j else if ga h 2486 j = c then ga h 2488 j + 1 - ga h' 2490 j else 0) ≤ if j = e then 0 else if ga h 2487 j = c then ga h 2490 j else if ga h 2486 j = c then ga h 2488 j + 1 - ga h 2490 j else 0
    by_cases je : j = e
    · rw [if_pos je, if_pos je]
      exact Int.le_refl _
    · rw [if_neg je, if_neg je]
      by_cases jf : ga h 2487 j = c
      · rw [if_pos jf, if_pos jf]
        rcases (TC13.tfr w p hn j0 (t _ j0) (Or.inl jf)).2 with q | ⟨q1, q2⟩ | ⟨q1, q2, q3⟩
        · have q : ga h' 2490 j = ga h 2490 j := q
          omega
        · -- it would be left and come to
          exfalso
          rcases t j j0 with ⟨i, a, b, d⟩ | ⟨i, a, b, d⟩ | ⟨a, d⟩
          · have pi := p i a
            have ei := (w.2.2.1 _ pi.2.2.1 pi.2.2.2 pi.2.1).1
            rw [b] at ei
            have := ei.2.2.2.2.1 (eb13_p j0).2
            rw [(eb13_p j0).1] at this
            exact pi.1 (this.symm.trans jf)
          · have d : ga h' 2490 j = ga h 2490 j - v := d
            have q2 : ga h' 2490 j = ga h 2490 j + v := q2
            omega
          · have d : ga h' 2490 j = ga h 2490 j := d
            have q2 : ga h' 2490 j = ga h 2490 j + v := q2
            omega
        · have q3 : ga h' 2490 j = ga h 2490 j - v := q3
          omega
      · rw [if_neg jf, if_neg jf]
        by_cases jb : ga h 2486 j = c
        · rw [if_pos jb, if_pos jb]
          rcases (TC13.tfr w p hn j0 (t _ j0) (Or.inr jb)).2 with q | ⟨q1, q2⟩ | ⟨q1, q2, q3⟩
          · have q : ga h' 2490 j = ga h 2490 j := q
            omega
          · have q2 : ga h' 2490 j = ga h 2490 j + v := q2
            omega
          · exact absurd q1 jf
        · rw [if_neg jb, if_neg jb]
          exact Int.le_refl _
theorem PV13.wo {h : MH} {π : Int → Int} (e : Int) (p : PV13 (N13 h (-1)) π) : PV13 (N13 h e) π := by
  rintro v y ⟨y0, y1, y2, y3, y4, y5, y6⟩
  refine p v y ⟨y0, y1, ?_, y3, y4, y5, y6⟩
  show eb13 y ≠ -1
  omega
theorem PV13.dn {N : Nt13} {π : Int → Int} (p : PV13 N π) {dn : Int → Int} (d : ∀ e : Int, 0 ≤ e → dn e = 0 → ndn N e = 0) : PV13 (nbg N, nfn N, nmo N, npr N, nfl N, dn, nA N, nwo N) π := by
  rintro v y ⟨y0, y1, y2, y3, y4, y5, y6⟩
  exact p v y ⟨y0, y1, y2, d _ y1.1 y3, y4, y5, y6⟩
theorem ex13.st {N N' : Nt13} (a : nfn N' = nfn N) (b : nbg N' = nbg N) (c : nA N' = nA N) (fl : Int → Int) (u : Int) : ex13 N' fl u = ex13 N fl u := by
  unfold ex13 ef13
  rw [a, b, c]
theorem nin13 : ∀ c ∈ ([2486, 2487, 2488, 2489, 2491] : List Nat), c ∉ ([2468, 2490, 2492, 2493] : List Nat) := by decide
/-- what every arc of the net is -/
def AR13 (h : MH) : Prop := ∀ e : Int, 0 ≤ e → e < ga h 2468 22 → ga h 2486 e ≠ 33 ∧ (1 ≤ ga h 2486 e → ga h 2486 e ≤ 12 → (13 ≤ ga h 2487 e ∧ ga h 2487 e ≤ 20) ∧ ga h 2488 e = 1125899906842624) ∧ (13 ≤ ga h 2486 e → ga h 2486 e ≤ 20 → ga h 2488 e ≤ 1000001)
