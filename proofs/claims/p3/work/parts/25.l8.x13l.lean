/-! X13: what stands between sending all and the first of all, told by hand -/
theorem sm12_cg {f g : Int → Int} {n : Nat} (e : ∀ j : Int, 0 ≤ j → j < (n : Int) → g j = f j) : sm12 g n = sm12 f n :=
  Int.le_antisymm (sm12_le fun j a b => Int.le_of_eq (e j a b)) (sm12_le fun j a b => Int.le_of_eq (e j a b).symm)
def LD13 (h : MH) : Prop := (0 ≤ ga h 2468 22 ∧ ga h 2468 22 ≤ 140) ∧ NB13 h ∧ (∃ π : Int → Int, PV13 (N13 h (-1)) π) ∧ ∀ u : Int, 13 ≤ u → u ≤ 20 → ex13 (N13 h (-1)) (ga h 2490) u = 0
theorem LD13.ez {h h' : MH} (l : LD13 h) (ea : ga h' 2468 22 = ga h 2468 22) (e : Ez 2486 2491 h h') : LD13 h' := by
  obtain ⟨a, nb, ⟨π, pv⟩, x⟩ := l
  have g : ∀ c : Nat, 2486 ≤ c → c ≤ 2491 → ∀ i : Int, 0 ≤ i → i < ga h 2468 22 → ga h' c i = ga h c i := fun c c0 c1 i i0 i1 => e c c0 c1 i (by omega)
  refine ⟨by rw [ea]; exact a, fun k k0 k1 => ?_, ⟨π, fun v y ev => ?_⟩, fun u u0 u1 => ?_⟩
  · rw [ea] at k1
    rw [g 2490 (by decide) (by decide) k k0 k1, g 2488 (by decide) (by decide) k k0 k1]
    exact nb k k0 k1
  · obtain ⟨y0, yb, yw, yd, yn, yg, yr⟩ := ev
    have yb : 0 ≤ eb13 y ∧ eb13 y < ga h' 2468 22 := yb
    rw [ea] at yb
    have q : ∀ c : Nat, 2486 ≤ c → c ≤ 2491 → ga h' c (eb13 y) = ga h c (eb13 y) := fun c c0 c1 => g c c0 c1 _ yb.1 yb.2
    have q6 := q 2486 (by decide) (by decide)
    have q7 := q 2487 (by decide) (by decide)
    have q8 := q 2488 (by decide) (by decide)
    have q9 := q 2489 (by decide) (by decide)
    have q0 := q 2490 (by decide) (by decide)
    have q1 := q 2491 (by decide) (by decide)
    have p : pa13 (N13 h' (-1)) y = pa13 (N13 h (-1)) y := by
      show (if 0 < y then ga h' 2486 (eb13 y) else ga h' 2487 (eb13 y)) = (if 0 < y then ga h 2486 (eb13 y) else ga h 2487 (eb13 y))
      rw [q6, q7]
    have co : co13 (N13 h' (-1)) y = co13 (N13 h (-1)) y := by
      show (if 0 < y then ga h' 2489 (eb13 y) else -ga h' 2489 (eb13 y)) = (if 0 < y then ga h 2489 (eb13 y) else -ga h 2489 (eb13 y))
      rw [q9]
    have yd : ga h' 2491 (eb13 y) = 0 := yd
    have yn : 0 < y → ga h' 2487 (eb13 y) = v := yn
    have yg : ¬ 0 < y → ga h' 2486 (eb13 y) = v := yg
    have yr : 0 < (if 0 < y then ga h' 2488 (eb13 y) - ga h' 2490 (eb13 y) else ga h' 2490 (eb13 y)) := yr
    rw [q1] at yd
    rw [q7] at yn
    rw [q6] at yg
    rw [q8, q0] at yr
    rw [p, co]
    exact pv v y ⟨y0, yb, yw, yd, yn, yg, yr⟩
  · have w : ex13 (N13 h' (-1)) (ga h' 2490) u = ex13 (N13 h (-1)) (ga h 2490) u := by
      show sm12 (ef13 (N13 h' (-1)) (ga h' 2490) u) (ga h' 2468 22).toNat = sm12 (ef13 (N13 h (-1)) (ga h 2490) u) (ga h 2468 22).toNat
      rw [ea]
      refine sm12_cg fun j j0 j1 => ?_
      show (if ga h' 2487 j = u then ga h' 2490 j else if ga h' 2486 j = u then -ga h' 2490 j else 0) = (if ga h 2487 j = u then ga h 2490 j else if ga h 2486 j = u then -ga h 2490 j else 0)
      rw [g 2487 (by decide) (by decide) j j0 (by omega), g 2490 (by decide) (by decide) j j0 (by omega), g 2486 (by decide) (by decide) j j0 (by omega)]
    exact w.trans (x u u0 u1)
