/-! a row more; a firm table with its sizes; a beam as it is read -/
theorem J14.new {h h' : MH} {M rn v : Int} {c : Nat} (j : J14 h M) (e : h' = sa h c rn v) (hr : ga h 2495 12 = rn) (hc : c = 2505 ∨ c = 2506 ∨ c = 2507) : J14 h' M := by
  have o := Only.wr e
  have r0 : 0 ≤ rn := by
    have := j.2.1.1
    omega
  have m : ∀ d : Nat, d ≠ c → d ∉ [c] := fun d q w => q (List.mem_singleton.mp w)
  refine ⟨j.1.cel o ⟨m _ (by omega), m _ (by omega), m _ (by omega), m _ (by omega)⟩ ⟨m _ (by omega), m _ (by omega), m _ (by omega)⟩, ?_, ?_⟩
  · unfold R8
    rw [o.ga (d := 2495) (m _ (by omega))]
    refine ⟨j.2.1.1, fun i a b => ?_⟩
    have k : ∀ d : Nat, ga h' d i = ga h d i := fun d => by
      by_cases q : d = c
      · rw [q, ga_wr e r0 a, if_neg (by omega)]
      · exact o.ga (m d q) i
    rw [k, k, k]
    exact j.2.1.2 i a b
  · rw [o.ga (d := 2495) (m _ (by omega))]
    exact j.2.2
theorem J14.add {h h' : MH} {M rn : Int} (j : J14 h M) (e : h' = sa h 2495 12 (rn + 1)) (hr : ga h 2495 12 = rn) (r8 : rn ≠ 8) (f : (0 ≤ ga h 2505 rn ∧ ga h 2505 rn ≤ 3) ∧ (0 ≤ ga h 2506 rn ∧ ga h 2506 rn ≤ M) ∧ (ga h 2505 rn < 3 → ga h 2506 rn < M) ∧ (0 ≤ ga h 2507 rn ∧ ga h 2507 rn ≤ 4)) : J14 h' M := by
  have o := Only.wr e
  have b := j.2.1.1
  have w : ga h' 2495 12 = rn + 1 := by
    rw [e]
    exact (ga_sa _ _ _ (by decide) (by decide)).trans (if_pos rfl)
  refine ⟨j.1.fld e (by decide) (by decide), ?_, ?_⟩
  · unfold R8
    rw [w]
    refine ⟨by omega, fun i a c => ?_⟩
    rw [o.ga (d := 2505) (by decide), o.ga (d := 2506) (by decide), o.ga (d := 2507) (by decide)]
    by_cases q : i = rn
    · rw [q]
      exact f
    · exact j.2.1.2 i a (by omega)
  · rw [e, ga_sa _ _ _ (by decide) (by decide), if_neg (by decide)]
    exact j.2.2
theorem Sv.lf {h : MH} {M : Int} (v : Sv4 h M) (hM : 1 ≤ M ∧ M ≤ 3) (e : ga h 2495 18 = 4 * M) : ∃ T : Int → Int → Rat, Lk4 h M T ∧ ∀ j : Int, 0 ≤ j → j < 4 * M → 0 ≤ ga h 2508 j ∧ ga h 2508 j < 4 * M := by
  obtain ⟨T, k, tb, gs, hk, t⟩ := v
  have l := gs.le
  have ek : (k : Int) = 4 * M := by omega
  refine ⟨T, ⟨tb, fun a x a0 a1 x0 x1 => gs.size (by omega) (by omega) a0 (by omega) x0 x1, fun j a b => ?_⟩, fun j a b => ?_⟩
  · have x := t.1 j a b
    omega
  · have x := t.1 j a b
    have y := t.2 ek j a b
    omega
theorem hs_naive {T : Int → Int → Rat} {tl : Int → Int} {k w x t l e col n : Int} (hx : 0 ≤ x ∧ x ≤ 4) (hl : 1 ≤ l ∧ l ≤ 12) (he : 1 ≤ e ∧ e ≤ 12) (z : ∀ a x : Int, 0 ≤ a → a < n → 0 ≤ x → x < 28 → SzQ 12 (T a x)) (hc : 0 ≤ col ∧ col < 28) (ht : ∀ u : Int, 0 ≤ u → u < 4 → 0 ≤ tl (4 * k + u) ∧ tl (4 * k + u) < n) : ∀ m : Nat, m ≤ 4 → SzQ (14 * m + 1) (0 + sumN m (hsF T tl k w x t l e col))
  | 0, _ => by
    show SzQ 1 (0 + 0)
    rw [Rat.add_zero]
    exact sz_zero
  | m + 1, h => by
    have a := hs_naive (w := w) (t := t) hx hl he z hc ht m (by omega)
    have b := ht m (by omega) (by omega)
    have c := SzQ.tm (t := t) ((coQ_sz (w := w) (j := (m : Int)) hx hl he).mul (z _ col b.1 b.2 hc.1 hc.2))
    have d := (a.add c).up (show 14 * m + 1 + (1 + 12) + 1 ≤ 14 * (m + 1) + 1 by omega)
    have e1 : 0 + sumN (m + 1) (hsF T tl k w x t l e col) = 0 + sumN m (hsF T tl k w x t l e col) + tmQ t (coQ w x l e m * T (tl (4 * k + m)) col) := by
      rw [Rat.add_assoc]
      rfl
    rw [e1]
    exact d
/-- while a beam is read: what may change -/
def RF (h0 h : MH) : Prop := Only [2495, 2509, 2510, 2511, 2512, 2513] h0 h ∧ (∀ j : Int, 0 ≤ j → j ≠ 20 → ga h 2495 j = ga h0 2495 j) ∧ 0 ≤ ga h 2495 20 ∧ ga h 2495 20 ≤ ga h 2495 10
theorem RF.trans {a b c : MH} (x : RF a b) (y : RF b c) : RF a c := ⟨x.1.trans y.1, fun j p q => (y.2.1 j p q).trans (x.2.1 j p q), y.2.2⟩
theorem RF.at {h0 h h' : MH} {v : Int} (x : RF h0 h) (e : h' = sa h 2495 20 v) (b : 0 ≤ v ∧ v ≤ ga h 2495 10) : RF h0 h' := by
  have w : ∀ j : Int, 0 ≤ j → j ≠ 20 → ga h' 2495 j = ga h 2495 j := fun j p q => (ga_wr e (by decide) p).trans (if_neg q)
  have z : ga h' 2495 20 = v := (ga_wr e (by decide) (by decide)).trans (if_pos rfl)
  refine ⟨x.1.trans ((Only.wr e).mono (by decide)), fun j p q => (w j p q).trans (x.2.1 j p q), ?_⟩
  rw [z, w 10 (by decide) (by decide)]
  exact b
theorem RF.cel {h0 h h' : MH} {c : Nat} {i v : Int} (x : RF h0 h) (e : h' = sa h c i v) (m : c ∈ [2509, 2510, 2511, 2512, 2513]) (n : 2495 ≠ c) : RF h0 h' := by
  have o := Only.wr e
  have n2 : 2495 ∉ [c] := fun w => n (List.mem_singleton.mp w)
  refine ⟨x.1.trans (o.mono fun d q => ?_), fun j p q => (o.ga n2 j).trans (x.2.1 j p q), ?_⟩
  · rw [List.mem_singleton.mp q]
    exact List.mem_cons_of_mem _ m
  · rw [o.ga n2, o.ga n2]
    exact x.2.2
