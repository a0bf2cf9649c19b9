/-! X14 as a whole: what always holds of it -/
abbrev Sv4 (h : MH) (M : Int) : Prop := Sv 2496 2497 2495 2508 h M
def J4s (h : MH) (M : Int) : Prop := (1 ≤ M ∧ M ≤ 3) ∧ ga h 2495 3 = M ∧ (∀ k : Int, 0 ≤ k → k < M → (1 ≤ ga h 2498 k ∧ ga h 2498 k ≤ 12) ∧ (1 ≤ ga h 2499 k ∧ ga h 2499 k ≤ 12)) ∧ ∀ j : Int, 0 ≤ j → j < 4 → -1000 ≤ ga h 2503 j ∧ ga h 2503 j ≤ 1000
def J4 (h : MH) (M : Int) : Prop := J4s h M ∧ (ga h 2495 16 ≠ 0 → Sv4 h M)
/-- the rows of influence that stand -/
def R8 (h : MH) (M : Int) : Prop := (0 ≤ ga h 2495 12 ∧ ga h 2495 12 ≤ 8) ∧ ∀ i : Int, 0 ≤ i → i < ga h 2495 12 → (0 ≤ ga h 2505 i ∧ ga h 2505 i ≤ 3) ∧ (0 ≤ ga h 2506 i ∧ ga h 2506 i ≤ M) ∧ (ga h 2505 i < 3 → ga h 2506 i < M) ∧ (0 ≤ ga h 2507 i ∧ ga h 2507 i ≤ 4)
theorem J4s.cong {h h' : MH} {M : Int} (j : J4s h M) (e : ga h' 2495 3 = ga h 2495 3) (a : ∀ k, ga h' 2498 k = ga h 2498 k) (b : ∀ k, ga h' 2499 k = ga h 2499 k) (c : ∀ k, ga h' 2503 k = ga h 2503 k) : J4s h' M := ⟨j.1, e.trans j.2.1, fun k k0 k1 => by
  rw [a, b]
  exact j.2.2.1 k k0 k1, fun k k0 k1 => by
  rw [c]
  exact j.2.2.2 k k0 k1⟩
theorem J4s.only {h h' : MH} {M : Int} {cs : List Nat} (j : J4s h M) (o : Only cs h h') (n : 2495 ∉ cs ∧ 2498 ∉ cs ∧ 2499 ∉ cs ∧ 2503 ∉ cs) : J4s h' M := j.cong (o.ga n.1 _) (fun _ => o.ga n.2.1 _) (fun _ => o.ga n.2.2.1 _) (fun _ => o.ga n.2.2.2 _)
/-- what a call does that only reckons -/
def Rk (h h' : MH) (M : Int) : Prop := Only [2496, 2497, 2495, 2508] h h' ∧ (∀ j : Int, 0 ≤ j → j ≠ 0 → j ≠ 16 → j ≠ 17 → j ≠ 18 → ga h' 2495 j = ga h 2495 j) ∧ J4 h' M ∧ (ga h 2495 16 ≠ 0 → ga h' 2495 16 ≠ 0 ∧ ga h' 2495 18 = ga h 2495 18 ∧ (∀ j : Int, ga h' 2508 j = ga h 2508 j) ∧ ∀ T : Int → Int → Rat, Tab 2496 2497 h T → Tab 2496 2497 h' T)
theorem Rk.refl {h : MH} {M : Int} (j : J4 h M) : Rk h h M := ⟨Only.refl _ _, fun _ _ _ _ _ _ => rfl, j, fun q => ⟨q, rfl, fun _ => rfl, fun _ t => t⟩⟩
theorem Rk.trans {h h' h'' : MH} {M : Int} (a : Rk h h' M) (b : Rk h' h'' M) : Rk h h'' M := ⟨a.1.trans b.1, fun j p q r s t => (b.2.1 j p q r s t).trans (a.2.1 j p q r s t), b.2.2.1, fun q => by
  have x := a.2.2.2 q
  have y := b.2.2.2 x.1
  exact ⟨y.1, y.2.1.trans x.2.1, fun j => (y.2.2.1 j).trans (x.2.2.1 j), fun T t => y.2.2.2 T (x.2.2.2 T t)⟩⟩
theorem Rk.j {h h' : MH} {M : Int} (a : Rk h h' M) : J4 h' M := a.2.2.1
theorem Rk.r8 {h h' : MH} {M : Int} (a : Rk h h' M) (r : R8 h M) : R8 h' M := by
  have e := a.2.1 12 (by decide) (by decide) (by decide) (by decide) (by decide)
  unfold R8
  rw [e]
  refine ⟨r.1, fun i i0 i1 => ?_⟩
  rw [a.1.ga (d := 2505) (by decide), a.1.ga (d := 2506) (by decide), a.1.ga (d := 2507) (by decide)]
  exact r.2 i i0 i1
/-- the numbers change, but not the table -/
theorem Rk.ch {h h' : MH} {M : Int} {L : List Int} (j : J4 h M) (c : Ch 70 2496 2497 L h h') (l : ∀ n ∈ L, 672 ≤ n) : Rk h h' M := by
  have o := c.1
  have kt : ∀ T : Int → Int → Rat, Tab 2496 2497 h T → Tab 2496 2497 h' T := fun T t => t.keep c l
  refine ⟨o.mono (by decide), fun j _ _ _ _ _ => o.ga (by decide) j, ⟨j.1.only o (by decide), fun q => (j.2 ?_).keep o kt (by decide) (by decide)⟩, fun q => ⟨?_, o.ga (by decide) _, fun j => o.ga (by decide) j, kt⟩⟩
  · rw [o.ga (d := 2495) (by decide)] at q
    exact q
  · rw [o.ga (d := 2495) (by decide)]
    exact q
theorem Sv.ch {h h' : MH} {M : Int} {L : List Int} (v : Sv4 h M) (c : Ch 70 2496 2497 L h h') (l : ∀ n ∈ L, 672 ≤ n) : Sv4 h' M := v.keep c.1 (fun _ t => t.keep c l) (by decide) (by decide)
/-- the note of a fault is written -/
theorem Rk.fault {h h' : MH} {M v : Int} (j : J4 h M) (e : h' = sa h 2495 0 v) : Rk h h' M := by
  have o : Only [2495] h h' := by
    rw [e]
    exact (Only.refl _ _).set List.mem_cons_self
  have f : ∀ j : Int, 0 ≤ j → j ≠ 0 → ga h' 2495 j = ga h 2495 j := fun j a b => by
    rw [e]
    exact (ga_sa _ _ _ (by decide) a).trans (if_neg b)
  have kt : ∀ T : Int → Int → Rat, Tab 2496 2497 h T → Tab 2496 2497 h' T := fun T t => t.only o (by decide) (by decide)
  have e16 := f 16 (by decide) (by decide)
  have e18 := f 18 (by decide) (by decide)
  refine ⟨o.mono (by decide), fun j a b _ _ _ => f j a b, ⟨j.1.cong (f 3 (by decide) (by decide)) (fun _ => o.ga (by decide) _) (fun _ => o.ga (by decide) _) (fun _ => o.ga (by decide) _), fun q => ?_⟩, fun q => ⟨by rw [e16]; exact q, e18, fun j => o.ga (by decide) j, kt⟩⟩
  rw [e16] at q
  obtain ⟨T, k, tb, gs, hk, t⟩ := j.2 q
  exact ⟨T, k, kt T tb, gs, e18.trans hk, t.only o (by decide)⟩
theorem Rk.solve {h h' : MH} {M : Int} (j : J4 h M) (o : Only [2496, 2497, 2495, 2508] h h') (f : ∀ j : Int, 0 ≤ j → j ≠ 16 → j ≠ 17 → j ≠ 18 → ga h' 2495 j = ga h 2495 j) (s : ga h 2495 16 ≠ 0 → h' = h) (n : ga h' 2495 16 ≠ 0) (v : Sv4 h' M) : Rk h h' M := by
  refine ⟨o, fun j a _ b c d => f j a b c d, ⟨j.1.cong (f 3 (by decide) (by decide) (by decide) (by decide)) (fun _ => o.ga (by decide) _) (fun _ => o.ga (by decide) _) (fun _ => o.ga (by decide) _), fun _ => v⟩, fun q => ?_⟩
  rw [s q]
  exact ⟨q, rfl, fun _ => rfl, fun _ t => t⟩
abbrev Lk4 (h : MH) (M : Int) (T : Int → Int → Rat) : Prop := Lk 2496 2497 2508 h M T
theorem Lk.ch {h h' : MH} {M : Int} {T : Int → Int → Rat} {L : List Int} (v : Lk4 h M T) (c : Ch 70 2496 2497 L h h') (l : ∀ n ∈ L, 672 ≤ n) : Lk4 h' M T := v.keep c.1 (v.1.keep c l) (by decide)
/-- what a number of at is, of a state -/
def VQ (h : MH) (M row k p : Int) (r : Rat) : Prop := ∃ T : Int → Int → Rat, Tab 2496 2497 h T ∧ r = valQ T (ga h 2508) (ga h 2498) (ga h 2499) M (ga h 2505 row) (ga h 2506 row) (ga h 2507 row) k p
def AtR (r : Rat) (part v : Int) : Prop := (part < 0 → v = r.num.sign) ∧ (0 ≤ part → v = (if part % 2 = 0 then (r.num.natAbs : Int) else (r.den : Int)) / TP (part / 2).toNat % 1000000000000000000)
theorem den_lt {F r : Rat} (k : Fk9 F) (v : Vf F Vm r) : (r.den : Int) < 1000000000000000000000000000000000000 := by
  obtain ⟨z, ez⟩ := k.z
  obtain ⟨y, ey⟩ := v.1
  have kb := k.b
  have p : 294912 * OM < ((1000000000000000000000000000000000000 : Int) : Rat) := by decide +kernel
  rw [ez, ab_int] at kb
  have zz : ((z.natAbs : Int) : Rat) < ((1000000000000000000000000000000000000 : Int) : Rat) := by grind
  have zi := Rat.intCast_lt_intCast.mp zz
  have z0 : z ≠ 0 := fun h => k.n (by rw [ez, h]; rfl)
  have zr : (z : Rat) ≠ 0 := fun h => z0 (Rat.intCast_eq_zero_iff.mp h)
  have er : r = Rat.divInt y z := by
    rw [Rat.divInt_eq_div, ← ey, ez, Rat.mul_comm, Rat.mul_div_cancel zr]
  have key : ∀ p q : Int, 0 < q → r = Rat.divInt p q → q.natAbs = z.natAbs → (r.den : Int) < 1000000000000000000000000000000000000 := fun p q q0 e e2 => by
    have s := divInt_sz (p := p) q0
    rw [← e] at s
    omega
  rcases Int.lt_or_gt_of_ne z0 with h | h
  · exact key (-y) (-z) (by omega) (by rw [er, Rat.neg_divInt_neg]) (Int.natAbs_neg z)
  · exact key y z h er rfl
theorem Str.rk {t rf : List (Nat × Nat × Nat)} {h h' : MH} {M : Int} (g : Str t rf h) (r : Rk h h' M) (n : (rf.all fun q => (Nat.beq q.1 2495 && !(Nat.beq q.2.1 0) && !(Nat.beq q.2.1 16) && !(Nat.beq q.2.1 17) && !(Nat.beq q.2.1 18)) || (!(Nat.beq q.1 2495) && !(Nat.beq q.1 2496) && !(Nat.beq q.1 2497) && !(Nat.beq q.1 2508))) = true := by rfl) : Str t rf h' := by
  refine ⟨fun q m => ⟨by rw [r.1.1]; exact (g.1 q m).1, by rw [(r.1.2.1 q.1).1]; exact (g.1 q m).2.1, fun l => by rw [(r.1.2.1 q.1).2]; exact (g.1 q m).2.2 l⟩, fun q m => ?_⟩
  have k := List.all_eq_true.mp n q m
  have ne : ∀ {a b : Nat}, (!(Nat.beq a b)) = true → a ≠ b := fun {a b} w e => by
    rw [e, Nat.beq_refl] at w
    exact absurd w (by decide)
  rcases Bool.or_eq_true .. |>.mp k with w | w
  · have w1 := (Bool.and_eq_true ..).mp w
    have w2 := (Bool.and_eq_true ..).mp w1.1
    have w3 := (Bool.and_eq_true ..).mp w2.1
    have w4 := (Bool.and_eq_true ..).mp w3.1
    have e1 : q.1 = 2495 := Nat.eq_of_beq_eq_true w4.1
    have e2 := ne w4.2
    have e3 := ne w3.2
    have e4 := ne w2.2
    have e5 := ne w1.2
    have f := r.2.1 q.2.1 (Int.natCast_nonneg _) (by omega) (by omega) (by omega) (by omega)
    unfold ga at f
    rw [Int.toNat_natCast] at f
    rw [e1, f, ← e1]
    exact g.2 q m
  · have w1 := (Bool.and_eq_true ..).mp w
    have w2 := (Bool.and_eq_true ..).mp w1.1
    have w3 := (Bool.and_eq_true ..).mp w2.1
    have e1 := ne w3.1
    have e2 := ne w3.2
    have e3 := ne w2.2
    have e4 := ne w1.2
    rw [r.1.2.2 q.1 (by simp only [List.mem_cons, List.not_mem_nil, or_false, not_or]; omega)]
    exact g.2 q m
