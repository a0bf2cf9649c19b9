/-! X19: corners, lanes, trains come and go -/
theorem S19.ln {h h' : MH} {cn : Int} {cs : List Nat} (j : S19 h cn) (o : Only cs h h') (f : ∀ j : Int, j = 2 ∨ j = 7 ∨ j = 13 ∨ j = 14 ∨ j = 15 ∨ j = 17 ∨ j = 24 ∨ j = 26 → ga h' 2514 j = ga h 2514 j) (a : (2517 ∉ cs ∧ 2518 ∉ cs ∧ 2519 ∉ cs) ∧ (2520 ∉ cs ∧ 2521 ∉ cs ∧ 2522 ∉ cs ∧ 2523 ∉ cs ∧ 2524 ∉ cs) ∧ (2528 ∉ cs ∧ 2529 ∉ cs ∧ 2530 ∉ cs ∧ 2531 ∉ cs)) (t : Ln9 h') : S19 h' cn := by
  have e : ∀ d : Nat, d ∉ cs → ga h' d = ga h d := fun d n => funext fun i => o.ga n i
  refine ⟨?_, ?_, t, ?_, j.2.2.2.2.same fun i q => f i (by omega)⟩
  · unfold Cn9
    rw [f 2 (by omega), e 2517 a.1.1, e 2518 a.1.2.1, e 2519 a.1.2.2]
    exact j.1
  · unfold Tr9
    rw [f 7 (by omega), e 2520 a.2.1.1, e 2521 a.2.1.2.1, e 2522 a.2.1.2.2.1, e 2523 a.2.1.2.2.2.1, e 2524 a.2.1.2.2.2.2]
    exact j.2.1
  · unfold Tx9
    rw [f 24 (by omega), f 26 (by omega), e 2528 a.2.2.1, e 2529 a.2.2.2.1, e 2530 a.2.2.2.2.1, e 2531 a.2.2.2.2.2]
    exact j.2.2.2.1
theorem J19.lw {h h' : MH} {cn v ln : Int} {c : Nat} (j : J19 h cn) (e : h' = sa h c ln v) (hl : ga h 2514 21 = ln) (hc : c = 2525 ∨ c = 2526) : J19 h' cn := by
  have o := Only.wr e
  have l0 := j.1.2.2.1.1
  have m : ∀ d : Nat, d ≠ c → d ∉ [c] := fun d q w => q (List.mem_singleton.mp w)
  have f : ∀ i : Int, ga h' 2514 i = ga h 2514 i := fun i => o.ga (m _ (by omega)) i
  refine ⟨j.1.ln o (fun i _ => f i) ⟨⟨m _ (by omega), m _ (by omega), m _ (by omega)⟩, ⟨m _ (by omega), m _ (by omega), m _ (by omega), m _ (by omega), m _ (by omega)⟩, ⟨m _ (by omega), m _ (by omega), m _ (by omega), m _ (by omega)⟩⟩ ?_, j.2.o o ⟨m _ (by omega), m _ (by omega), m _ (by omega)⟩ ⟨f 6, f 13⟩⟩
  unfold Ln9
  rw [f 21]
  refine ⟨l0, fun i a b => ?_⟩
  have k : ∀ d : Nat, ga h' d i = ga h d i := fun d => by
    by_cases q : d = c
    · rw [q, ga_wr e (by omega) a, if_neg (by omega)]
    · exact o.ga (m d q) i
  rw [k, k]
  exact j.1.2.2.1.2 i a b
theorem J19.la {h h' : MH} {cn ln : Int} (j : J19 h cn) (e : h' = sa h 2514 21 (ln + 1)) (hl : ga h 2514 21 = ln) (l4 : ln ≠ 4) (f1 : 0 ≤ ga h 2525 ln ∧ ga h 2525 ln ≤ 1000) (f2 : 1 ≤ ga h 2526 ln ∧ ga h 2526 ln ≤ 1000) : J19 h' cn := by
  have o := Only.wr e
  have l0 := j.1.2.2.1.1
  have f : ∀ i : Int, 0 ≤ i → i ≠ 21 → ga h' 2514 i = ga h 2514 i := fun i a c => (ga_wr e (by decide) a).trans (if_neg c)
  have w : ga h' 2514 21 = ln + 1 := (ga_wr e (by decide) (by decide)).trans (if_pos rfl)
  refine ⟨j.1.ln o (fun i q => f i (by omega) (by omega)) (by decide) ?_, j.2.o o (by decide) ⟨f 6 (by decide) (by decide), f 13 (by decide) (by decide)⟩⟩
  unfold Ln9
  rw [w]
  refine ⟨by omega, fun i a b => ?_⟩
  rw [o.ga (d := 2525) (by decide), o.ga (d := 2526) (by decide)]
  by_cases q : i = ln
  · rw [q]
    exact ⟨f1, f2⟩
  · exact j.1.2.2.1.2 i a (by omega)
theorem J19.wc {h h' : MH} {cn v : Int} {c : Nat} (j : J19 h cn) (e : h' = sa h c cn v) (hc : c = 2517 ∨ c = 2518 ∨ c = 2519) : J19 h' cn := by
  have o := Only.wr e
  have c0 := j.1.1.2.1
  have m : ∀ d : Nat, d ≠ c → d ∉ [c] := fun d q w => q (List.mem_singleton.mp w)
  have f : ∀ d : Nat, d ≠ c → ga h' d = ga h d := fun d q => funext fun i => o.ga (m d q) i
  have k : ∀ (d : Nat) (i : Int), 0 ≤ i → i < cn → ga h' d i = ga h d i := fun d i a b => by
    by_cases q : d = c
    · rw [q, ga_wr e (by omega) a, if_neg (by omega)]
    · exact o.ga (m d q) i
  refine ⟨⟨⟨?_, c0, fun i a b => ?_, fun i i2 a b d => ?_⟩, ?_, ?_, ?_, ?_⟩, ?_⟩
  · rw [f 2514 (by omega)]
    exact j.1.1.1
  · rw [k _ i a b, k _ i a b, k _ i a b]
    exact j.1.1.2.2.1 i a b
  · rw [k _ i a (by omega), k _ i2 (by omega) d]
    exact j.1.1.2.2.2 i i2 a b d
  · unfold Tr9
    rw [f 2514 (by omega), f 2520 (by omega), f 2521 (by omega), f 2522 (by omega), f 2523 (by omega), f 2524 (by omega)]
    exact j.1.2.1
  · unfold Ln9
    rw [f 2514 (by omega), f 2525 (by omega), f 2526 (by omega)]
    exact j.1.2.2.1
  · unfold Tx9
    rw [f 2514 (by omega), f 2528 (by omega), f 2529 (by omega), f 2530 (by omega), f 2531 (by omega)]
    exact j.1.2.2.2.1
  · unfold Wk9
    rw [f 2514 (by omega)]
    exact j.1.2.2.2.2
  · have q := j.2
    unfold Q9 at q ⊢
    rw [f 2514 (by omega)]
    refine ⟨fun w => ⟨(q.1 w).1.o o ⟨m _ (by omega), m _ (by omega)⟩, ?_⟩, fun w => ⟨(q.2 w).1, (q.2 w).2.o o ⟨m _ (by omega), m _ (by omega)⟩⟩⟩
    obtain ⟨U, u, n⟩ := (q.1 w).2
    refine ⟨U, fun x a b => ?_, fun i a b => ?_⟩
    · rw [k _ x (by omega) b, k _ (x - 1) (by omega) (by omega)]
      exact u x a b
    · have y := n i a b
      unfold Nd Nv at y ⊢
      rw [f 2515 (by omega), f 2516 (by omega)]
      exact y
theorem S19.cn {h h' : MH} {cn v : Int} (j : S19 h cn) (e : h' = sa h 2514 2 v) (t : (0 ≤ v ∧ v ≤ 14) ∧ (∀ i : Int, 0 ≤ i → i < v → (0 ≤ ga h 2517 i ∧ ga h 2517 i ≤ 400) ∧ (-1000000 ≤ ga h 2518 i ∧ ga h 2518 i ≤ 1000000) ∧ (1 ≤ ga h 2519 i ∧ ga h 2519 i ≤ 1000)) ∧ ∀ i j : Int, 0 ≤ i → i < j → j < v → ga h 2517 i < ga h 2517 j) : S19 h' v := by
  have o := Only.wr e
  have f : ∀ i : Int, 0 ≤ i → i ≠ 2 → ga h' 2514 i = ga h 2514 i := fun i a c => (ga_wr e (by decide) a).trans (if_neg c)
  have g : ∀ d : Nat, d ∉ [2514] → ga h' d = ga h d := fun d n => funext fun i => o.ga n i
  refine ⟨⟨(ga_wr e (by decide) (by decide)).trans (if_pos rfl), ?_⟩, ?_, ?_, ?_, j.2.2.2.2.same fun i q => f i (by omega) (by omega)⟩
  · rw [g 2517 (by decide), g 2518 (by decide), g 2519 (by decide)]
    exact t
  · unfold Tr9
    rw [f 7 (by decide) (by decide), g 2520 (by decide), g 2521 (by decide), g 2522 (by decide), g 2523 (by decide), g 2524 (by decide)]
    exact j.2.1
  · unfold Ln9
    rw [f 21 (by decide) (by decide), g 2525 (by decide), g 2526 (by decide)]
    exact j.2.2.1
  · unfold Tx9
    rw [f 24 (by decide) (by decide), f 26 (by decide) (by decide), g 2528 (by decide), g 2529 (by decide), g 2530 (by decide), g 2531 (by decide)]
    exact j.2.2.2.1
theorem S19.add {h h' : MH} {cn : Int} (j : S19 h cn) (e : h' = sa h 2514 2 (cn + 1)) (c14 : cn ≠ 14) (f : (0 ≤ ga h 2517 cn ∧ ga h 2517 cn ≤ 400) ∧ (-1000000 ≤ ga h 2518 cn ∧ ga h 2518 cn ≤ 1000000) ∧ (1 ≤ ga h 2519 cn ∧ ga h 2519 cn ≤ 1000)) (l : 0 < cn → ga h 2517 (cn - 1) < ga h 2517 cn) : S19 h' (cn + 1) := by
  have c := j.1.2.1
  refine j.cn e ⟨by omega, fun i a b => ?_, fun i k a b d => ?_⟩
  · by_cases q : i = cn
    · rw [q]
      exact f
    · exact j.1.2.2.1 i a (by omega)
  · by_cases q : k = cn
    · rw [q]
      have w := l (by omega)
      by_cases z : i = cn - 1
      · rw [z]
        exact w
      · have := j.1.2.2.2 i (cn - 1) a (by omega) (by omega)
        omega
    · exact j.1.2.2.2 i k a b (by omega)
theorem S19.c0 {h h' : MH} {cn : Int} (j : S19 h cn) (e : h' = sa h 2514 2 0) : S19 h' 0 := j.cn e ⟨by decide, fun i a b => by omega, fun i k a b d => by omega⟩
theorem S19.one {h h' : MH} {cn F v : Int} (b : S19 h cn) (e : h' = sa h 2514 F v) (f0 : 0 ≤ F) (n : F ≠ 2 ∧ F ≠ 7 ∧ F ≠ 13 ∧ F ≠ 14 ∧ F ≠ 15 ∧ F ≠ 17 ∧ F ≠ 21 ∧ F ≠ 24 ∧ F ≠ 26) : S19 h' cn := by
  have f : ∀ i : Int, 0 ≤ i → i ≠ F → ga h' 2514 i = ga h 2514 i := fun i a c => (ga_wr e f0 a).trans (if_neg c)
  exact b.fl ((Only.wr e).mono (by decide)) (fun i q => f i (by omega) (by omega)) (b.2.2.2.2.same fun i q => f i (by omega) (by omega))
theorem S19.fg {h h' : MH} {cn : Int} (b : S19 h cn) (o : Only [2514] h h') (f : ∀ j : Int, 0 ≤ j → j ≠ 13 → j ≠ 17 → ga h' 2514 j = ga h 2514 j) (e : ga h' 2514 13 = 0) (e2 : ga h' 2514 17 = -1) : S19 h' cn := by
  refine b.fl (o.mono (by decide)) (fun j q => f j (by omega) (by omega) (by omega)) ⟨fun q => absurd e q, ?_, by rw [e2]; decide⟩
  rw [f 15 (by decide) (by decide) (by decide)]
  exact b.2.2.2.2.2.1
theorem J19.none {h : MH} {cn : Int} (s : S19 h cn) (a : ga h 2514 6 = 0) (b : ga h 2514 13 = 0) : J19 h cn := ⟨s, fun q => absurd a q, fun q => absurd b q⟩
theorem J19.fg {h h' : MH} {cn : Int} (b : J19 h cn) (o : Only [2514] h h') (f : ∀ j : Int, 0 ≤ j → j ≠ 13 → j ≠ 17 → ga h' 2514 j = ga h 2514 j) (e : ga h' 2514 13 = 0) (e2 : ga h' 2514 17 = -1) : J19 h' cn := by
  refine ⟨b.1.fg o f e e2, fun q => ?_, fun q => absurd e q⟩
  rw [f 6 (by decide) (by decide) (by decide)] at q
  exact ⟨(b.2.1 q).1.o o (by decide), (b.2.1 q).2.o o (by decide)⟩
/-- a train's axle -/
theorem J19.tw {h h' : MH} {cn t ax v : Int} {c : Nat} (j : J19 h cn) (ht : 0 ≤ t ∧ t < 6) (ha : ga h 2520 t = ax) (a5 : ax < 5) (e : h' = sa h c (5 * t + ax) v) (hc : c = 2521 ∨ c = 2522) : J19 h' cn := by
  have o := Only.wr e
  have m : ∀ d : Nat, d ≠ c → d ∉ [c] := fun d q w => q (List.mem_singleton.mp w)
  have f : ∀ d : Nat, d ≠ c → ga h' d = ga h d := fun d q => funext fun i => o.ga (m d q) i
  have a0 := (j.1.2.1.2 t ht.1 ht.2).1
  refine j.cel o (m _ (by omega)) ⟨m _ (by omega), m _ (by omega), m _ (by omega)⟩ (j.1.tr o (fun i _ => o.ga (m _ (by omega)) i) ⟨⟨m _ (by omega), m _ (by omega), m _ (by omega)⟩, ⟨m _ (by omega), m _ (by omega)⟩, ⟨m _ (by omega), m _ (by omega), m _ (by omega), m _ (by omega)⟩⟩ ?_)
  have q := j.1.2.1
  unfold Tr9 at q ⊢
  rw [f 2514 (by omega), f 2520 (by omega), f 2523 (by omega), f 2524 (by omega)]
  refine ⟨q.1, fun x x0 x1 => ?_⟩
  have y := q.2 x x0 x1
  refine ⟨y.1, y.2.1, y.2.2.1, fun i i0 i1 => ?_⟩
  have k : ∀ d : Nat, ga h' d (5 * x + i) = ga h d (5 * x + i) := fun d => by
    by_cases z : d = c
    · rw [z, ga_wr e (by omega) (by omega)]
      refine if_neg fun w => ?_
      have e1 : x = t := by omega
      rw [e1] at i1
      omega
    · exact o.ga (m d z) _
  rw [k, k]
  exact y.2.2.2 i i0 i1
theorem J19.ta {h h' : MH} {cn t ax : Int} (j : J19 h cn) (ht : 0 ≤ t ∧ t < 6) (ha : ga h 2520 t = ax) (a5 : ax < 5) (e : h' = sa h 2520 t (ax + 1)) (f1 : 0 ≤ ga h 2521 (5 * t + ax) ∧ ga h 2521 (5 * t + ax) ≤ 60 * ax) (f2 : 0 ≤ ga h 2522 (5 * t + ax) ∧ ga h 2522 (5 * t + ax) ≤ 1000000) : J19 h' cn := by
  have o := Only.wr e
  have f : ∀ d : Nat, d ∉ [2520] → ga h' d = ga h d := fun d q => funext fun i => o.ga q i
  have a0 := (j.1.2.1.2 t ht.1 ht.2).1
  refine j.cel o (by decide) (by decide) (j.1.tr o (fun i _ => o.ga (by decide) i) (by decide) ?_)
  have q := j.1.2.1
  unfold Tr9 at q ⊢
  rw [f 2514 (by decide), f 2521 (by decide), f 2522 (by decide), f 2523 (by decide), f 2524 (by decide)]
  refine ⟨q.1, fun x x0 x1 => ?_⟩
  have y := q.2 x x0 x1
  rw [ga_wr e ht.1 x0]
  by_cases z : x = t
  · rw [if_pos z]
    refine ⟨by omega, y.2.1, y.2.2.1, fun i i0 i1 => ?_⟩
    by_cases w : i = ax
    · rw [z, w]
      exact ⟨f1, f2⟩
    · exact y.2.2.2 i i0 (by rw [z]; omega)
  · rw [if_neg z]
    exact y
theorem J19.t0 {h h' : MH} {cn t : Int} (j : J19 h cn) (ht : 0 ≤ t ∧ t < 6) (e : h' = sa h 2520 t 0) : J19 h' cn := by
  have o := Only.wr e
  have f : ∀ d : Nat, d ∉ [2520] → ga h' d = ga h d := fun d q => funext fun i => o.ga q i
  refine j.cel o (by decide) (by decide) (j.1.tr o (fun i _ => o.ga (by decide) i) (by decide) ?_)
  have q := j.1.2.1
  unfold Tr9 at q ⊢
  rw [f 2514 (by decide), f 2521 (by decide), f 2522 (by decide), f 2523 (by decide), f 2524 (by decide)]
  refine ⟨q.1, fun x x0 x1 => ?_⟩
  have y := q.2 x x0 x1
  rw [ga_wr e ht.1 x0]
  by_cases z : x = t
  · rw [if_pos z]
    exact ⟨by decide, y.2.1, y.2.2.1, fun i i0 i1 => by omega⟩
  · rw [if_neg z]
    exact y
theorem J19.tn {h h' : MH} {cn tn : Int} (j : J19 h cn) (e : h' = sa h 2514 7 (tn + 1)) (hn : ga h 2514 7 = tn) (n6 : tn ≠ 6) : J19 h' cn := by
  have o := Only.wr e
  have f : ∀ i : Int, 0 ≤ i → i ≠ 7 → ga h' 2514 i = ga h 2514 i := fun i a c => (ga_wr e (by decide) a).trans (if_neg c)
  have w : ga h' 2514 7 = tn + 1 := (ga_wr e (by decide) (by decide)).trans (if_pos rfl)
  have g : ∀ d : Nat, d ∉ [2514] → ga h' d = ga h d := fun d n => funext fun i => o.ga n i
  have t := j.1.2.1
  refine ⟨⟨?_, ?_, ?_, ?_, ?_⟩, j.2.o o (by decide) ⟨f 6 (by decide) (by decide), f 13 (by decide) (by decide)⟩⟩
  · unfold Cn9
    rw [f 2 (by decide) (by decide), g 2517 (by decide), g 2518 (by decide), g 2519 (by decide)]
    exact j.1.1
  · unfold Tr9 at t ⊢
    rw [w, g 2520 (by decide), g 2521 (by decide), g 2522 (by decide), g 2523 (by decide), g 2524 (by decide)]
    exact ⟨by omega, t.2⟩
  · unfold Ln9
    rw [f 21 (by decide) (by decide), g 2525 (by decide), g 2526 (by decide)]
    exact j.1.2.2.1
  · unfold Tx9
    rw [f 24 (by decide) (by decide), f 26 (by decide) (by decide), g 2528 (by decide), g 2529 (by decide), g 2530 (by decide), g 2531 (by decide)]
    exact j.1.2.2.2.1
  · have k := j.1.2.2.2.2
    unfold Wk9 at k ⊢
    rw [w, f 13 (by decide) (by decide), f 14 (by decide) (by decide), f 15 (by decide) (by decide), f 17 (by decide) (by decide)]
    exact ⟨fun q => by have := k.1 q; omega, k.2⟩
