/-! what is told by hand of the heap, and that it looks nowhere else -/
def dxF (d : Int) : Int := if d = 0 ∨ d = 2 ∨ d = 14 then 1 else if d = 1 ∨ d = 15 then 2 else if d = 3 ∨ d = 13 then 1 else if d = 4 ∨ d = 12 then 0 else if d = 7 ∨ d = 9 then -2 else -1
theorem dxF_b (d : Int) : -2 ≤ dxF d ∧ dxF d ≤ 2 := by
  unfold dxF
  repeat' split
  all_goals omega
def dyF (d : Int) : Int := dxF ((d + 12) % 16)
theorem dyF_b (d : Int) : -2 ≤ dyF d ∧ dyF d ≤ 2 := dxF_b _
def st12 (c d : Int) : Int := if c % 12 + dxF d < 0 ∨ 12 ≤ c % 12 + dxF d ∨ c / 12 + dyF d < 0 ∨ 12 ≤ c / 12 + dyF d then -1 else (c / 12 + dyF d) * 12 + (c % 12 + dxF d)
theorem st12_b (c d : Int) : st12 c d = -1 ∨ 0 ≤ st12 c d ∧ st12 c d ≤ 143 := by
  unfold st12
  split
  · exact Or.inl rfl
  · right; omega
/-- the cells of a way -/
def pc12 (H : Int → Int) (f b : Int) : Nat → Int
  | 0 => f
  | n + 1 => st12 (pc12 H f b n) (H (b + n))
theorem pc12_eq {H H' : Int → Int} {f b : Int} : ∀ {n : Nat}, (∀ j : Nat, j < n → H' (b + j) = H (b + j)) → pc12 H' f b n = pc12 H f b n
  | 0, _ => rfl
  | n + 1, e => by
    show st12 (pc12 H' f b n) (H' (b + n)) = st12 (pc12 H f b n) (H (b + n))
    rw [pc12_eq (fun j hj => e j (by omega)), e n (by omega)]
/-- the paths told are good: each cell is one of the grid's -/
def P12 (h : MH) : Prop := ∀ w : Int, 0 ≤ w → w ≤ 5 → ∀ n : Nat, n ≤ 5000 → (n : Int) ≤ ga h 2466 w → 0 ≤ pc12 (ga h 2467) (ga h 2465 w) (5000 * w) n ∧ pc12 (ga h 2467) (ga h 2465 w) (5000 * w) n ≤ 143
/-- two heaps tell the same in these cells, as far as one can look -/
def Ez (lo hi : Nat) (h h' : MH) : Prop := ∀ c : Nat, lo ≤ c → c ≤ hi → ∀ i : Int, i < 1099511627776 → ga h' c i = ga h c i
theorem Nv.ez {W : Int} {z s : Nat} {h h' : MH} {n x : Int} (v : Nv W z s h n x) (e1 : ∀ i : Int, i < 1099511627776 → ga h' z i = ga h z i) (e2 : ∀ i : Int, i < 1099511627776 → ga h' s i = ga h s i) (hW : W = 70 ∨ W = 140) (hn : n < 1000) : Nv W z s h' n x := by
  have q := v.1.congr (Z' := ga h' z) fun j a b => e1 _ (by rcases hW with rfl | rfl <;> omega)
  exact ⟨q.1, q.2.1.trans v.2.1, (e2 n (by omega)).trans v.2.2⟩
theorem J14.ez {h h' : MH} {M : Int} (j : J14 h M) (e : Ez 2495 2513 h h') : J14 h' M := by
  obtain ⟨⟨⟨m, a3, a4, a5⟩, sv⟩, ⟨r0, r1⟩, l⟩ := j
  have f : ∀ i : Int, i < 1099511627776 → ga h' 2495 i = ga h 2495 i := e 2495 (by decide) (by decide)
  have k3 := f 3 (by decide)
  have k10 := f 10 (by decide)
  have k12 := f 12 (by decide)
  have k16 := f 16 (by decide)
  have k18 := f 18 (by decide)
  refine ⟨⟨⟨m, k3.trans a3, fun k k0 k1 => ?_, fun j j0 j1 => ?_⟩, fun q => ?_⟩, ⟨?_, fun i i0 i1 => ?_⟩, ?_⟩
  · rw [e 2498 (by decide) (by decide) k (by omega), e 2499 (by decide) (by decide) k (by omega)]
    exact a4 k k0 k1
  · rw [e 2503 (by decide) (by decide) j (by omega)]
    exact a5 j j0 j1
  · rw [k16] at q
    obtain ⟨T, k, tb, gs, hk, t⟩ := sv q
    refine ⟨T, k, fun r c a b c0 c1 => ?_, gs, k18.trans hk, fun j j0 j1 => ?_, fun x j j0 j1 => ?_⟩
    · obtain ⟨u, v, w⟩ := tb r c a b c0 c1
      exact ⟨u.ez (e 2496 (by decide) (by decide)) (e 2497 (by decide) (by decide)) (Or.inl rfl) (by omega), v.ez (e 2496 (by decide) (by decide)) (e 2497 (by decide) (by decide)) (Or.inl rfl) (by omega), w⟩
    · rw [e 2508 (by decide) (by decide) j (by omega)]
      exact t.1 j j0 j1
    · rw [e 2508 (by decide) (by decide) j (by omega)]
      exact t.2 x j j0 j1
  · rw [k12]
    exact r0
  · rw [k12] at i1
    rw [e 2505 (by decide) (by decide) i (by omega), e 2506 (by decide) (by decide) i (by omega), e 2507 (by decide) (by decide) i (by omega)]
    exact r1 i i0 i1
  · rw [k10]
    exact l
theorem J19.ez {h h' : MH} {cn : Int} (j : J19 h cn) (e : Ez 2514 2533 h h') : J19 h' cn := by
  obtain ⟨⟨⟨b0, b1, b2, b3⟩, ⟨t0, t1⟩, ⟨l0, l1⟩, ⟨x0, x1, x2, x3⟩, ⟨w0, w1⟩⟩, ⟨q0, q1⟩⟩ := j
  have f : ∀ i : Int, i < 1099511627776 → ga h' 2514 i = ga h 2514 i := e 2514 (by decide) (by decide)
  have g : ∀ i : Int, i < 1099511627776 → ga h' 2517 i = ga h 2517 i := e 2517 (by decide) (by decide)
  have nv : ∀ n x : Int, n < 1000 → Nv 140 2515 2516 h n x → Nv 140 2515 2516 h' n x := fun n x hn v => v.ez (e 2515 (by decide) (by decide)) (e 2516 (by decide) (by decide)) (Or.inr rfl) hn
  have f2 := f 2 (by decide)
  have f6 := f 6 (by decide)
  have f7 := f 7 (by decide)
  have f13 := f 13 (by decide)
  have f14 := f 14 (by decide)
  have f15 := f 15 (by decide)
  have f17 := f 17 (by decide)
  have f21 := f 21 (by decide)
  have f24 := f 24 (by decide)
  have f26 := f 26 (by decide)
  refine ⟨⟨⟨f2.trans b0, b1, fun i i0 i1 => ?_, fun i j i0 i1 i2 => ?_⟩, ⟨?_, fun t a b => ?_⟩, ⟨?_, fun i i0 i1 => ?_⟩, ⟨?_, ?_, fun k k0 k1 => ?_, fun t a b => ?_⟩, ⟨?_, ?_⟩⟩, ⟨fun q => ?_, fun q => ?_⟩⟩
  · rw [g i (by omega), e 2518 (by decide) (by decide) i (by omega), e 2519 (by decide) (by decide) i (by omega)]
    exact b2 i i0 i1
  · rw [g i (by omega), g j (by omega)]
    exact b3 i j i0 i1 i2
  · rw [f7]
    exact t0
  · have z := t1 t a b
    rw [e 2520 (by decide) (by decide) t (by omega), e 2523 (by decide) (by decide) t (by omega), e 2524 (by decide) (by decide) t (by omega)]
    refine ⟨z.1, z.2.1, z.2.2.1, fun i i0 i1 => ?_⟩
    rw [e 2521 (by decide) (by decide) (5 * t + i) (by omega), e 2522 (by decide) (by decide) (5 * t + i) (by omega)]
    exact z.2.2.2 i i0 i1
  · rw [f21]
    exact l0
  · rw [f21] at i1
    rw [e 2525 (by decide) (by decide) i (by omega), e 2526 (by decide) (by decide) i (by omega)]
    exact l1 i i0 i1
  · rw [f24]
    exact x0
  · rw [f26]
    exact x1
  · rw [e 2528 (by decide) (by decide) k (by omega), e 2530 (by decide) (by decide) k (by omega)]
    exact x2 k k0 k1
  · rw [e 2529 (by decide) (by decide) t (by omega), e 2531 (by decide) (by decide) t (by omega)]
    exact x3 t a b
  · rw [f13, f14, f7]
    exact w0
  · rw [f15, f17]
    exact w1
  · rw [f6] at q
    obtain ⟨⟨L, l2, l3⟩, ⟨U, u0, u1⟩⟩ := q0 q
    refine ⟨⟨L, nv _ _ (by decide) l2, l3⟩, ⟨U, fun j j0 j1 => ?_, fun c c0 c1 => ?_⟩⟩
    · rw [g j (by omega), g (j - 1) (by omega)]
      exact u0 j j0 j1
    · obtain ⟨x, n1, n2⟩ := u1 c c0 c1
      exact ⟨x, nv _ _ (by omega) n1, n2⟩
  · rw [f13] at q
    obtain ⟨k6, x, n1, n2⟩ := q1 q
    rw [f6]
    exact ⟨k6, x, nv _ _ (by decide) n1, n2⟩
theorem P12.ez {h h' : MH} (p : P12 h) (e5 : Ez 2465 2465 h h') (e6 : Ez 2466 2466 h h') (e7 : Ez 2467 2467 h h') : P12 h' := fun w w0 w1 n n1 n2 => by
  rw [e6 2466 (by decide) (by decide) w (by omega)] at n2
  rw [e5 2465 (by decide) (by decide) w (by omega), pc12_eq (H := ga h 2467) fun j hj => e7 2467 (by decide) (by decide) (5000 * w + j) (by omega)]
  exact p w w0 w1 n n1 n2
theorem onlyF {cs : List Nat} {h h' : MH} (a : Only cs h h') {d : Nat} (n : d ∉ cs) : ga h' d = ga h d := funext fun j => a.ga n j
