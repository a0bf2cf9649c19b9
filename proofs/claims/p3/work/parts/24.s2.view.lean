/-! a row of influence that can be looked at: what is known while its values are reckoned -/
def BV (h : MH) (M row E0 : Int) (T : Int → Int → Rat) (D : Rat) : Prop := J4s h M ∧ (0 ≤ row ∧ row < 8) ∧ ((0 ≤ ga h 2505 row ∧ ga h 2505 row ≤ 3) ∧ (0 ≤ ga h 2506 row ∧ ga h 2506 row ≤ M) ∧ (ga h 2505 row < 3 → ga h 2506 row < M) ∧ (0 ≤ ga h 2507 row ∧ ga h 2507 row ≤ 4)) ∧ ((1 ≤ E0 ∧ E0 ≤ 12) ∧ (ga h 2505 row < 3 → E0 = ga h 2499 (ga h 2506 row)) ∧ (ga h 2505 row = 3 → E0 = 1)) ∧ Tab 2496 2497 h T ∧ Fm T (4 * M) D ∧ ∀ j : Int, 0 ≤ j → j < 4 * M → 0 ≤ ga h 2508 j ∧ ga h 2508 j < 4 * M
theorem BV.of {h : MH} {M row : Int} (j : J4s h M) (r : R8 h M) (h0 : 0 ≤ row) (h1 : row < ga h 2495 12) (sv : Sv4 h M) (e : ga h 2495 18 = 4 * M) : ∃ (E0 : Int) (T : Int → Int → Rat) (D : Rat), BV h M row E0 T D := by
  obtain ⟨T, D, tb, fm, tl⟩ := sv.firm j.1 e
  have r1 := r.2 row h0 h1
  have r0 := r.1
  by_cases q : ga h 2505 row < 3
  · have b := j.2.2.1 (ga h 2506 row) r1.2.1.1 (r1.2.2.1 q)
    exact ⟨ga h 2499 (ga h 2506 row), T, D, j, ⟨h0, by omega⟩, r1, ⟨b.2, fun _ => rfl, fun w => by omega⟩, tb, fm, tl⟩
  · exact ⟨1, T, D, j, ⟨h0, by omega⟩, r1, ⟨⟨by decide, by decide⟩, fun w => absurd w q, fun _ => rfl⟩, tb, fm, tl⟩
theorem BV.ch {h h' : MH} {M row E0 : Int} {T : Int → Int → Rat} {D : Rat} {L : List Int} (v : BV h M row E0 T D) (c : Ch 70 2496 2497 L h h') (l : ∀ n ∈ L, 672 ≤ n) : BV h' M row E0 T D := by
  have o := c.1
  have e5 := o.ga (d := 2505) (by decide) row
  have e6 := o.ga (d := 2506) (by decide) row
  have e7 := o.ga (d := 2507) (by decide) row
  obtain ⟨a1, a2, a3, a4, a5, a6, a7⟩ := v
  unfold BV
  rw [e5, e6, e7]
  refine ⟨a1.only o (by decide), a2, a3, ⟨a4.1, fun q => ?_, a4.2.2⟩, a5.keep c l, a6, fun j j0 j1 => ?_⟩
  · rw [o.ga (d := 2499) (by decide)]
    exact a4.2.1 q
  · rw [o.ga (d := 2508) (by decide)]
    exact a7 j j0 j1
theorem BV.fk {h : MH} {M row E0 : Int} {T : Int → Int → Rat} {D : Rat} (v : BV h M row E0 T D) : Fk9 (fF E0 D) := v.2.2.2.2.2.1.fk v.2.2.2.1.1
/-- the number stays while nothing but numbers changes -/
theorem VQ.rk {h h' : MH} {M row k p : Int} {r : Rat} (v : VQ h M row k p r) (a : Rk h h' M) (q : ga h 2495 16 ≠ 0) : VQ h' M row k p r := by
  obtain ⟨T, t, e⟩ := v
  have x := a.2.2.2 q
  have o := a.1
  have e1 : ga h' 2508 = ga h 2508 := funext x.2.2.1
  have e2 : ga h' 2498 = ga h 2498 := funext fun j => o.ga (by decide) j
  have e3 : ga h' 2499 = ga h 2499 := funext fun j => o.ga (by decide) j
  refine ⟨T, x.2.2.2 T t, ?_⟩
  rw [e1, e2, e3, o.ga (d := 2505) (by decide), o.ga (d := 2506) (by decide), o.ga (d := 2507) (by decide)]
  exact e
/-- what a note of a state says when the call wrote no more than the note -/
theorem Rk.sv {h h' : MH} {M : Int} (a : Rk h h' M) (q : ga h' 2495 16 ≠ 0) : Sv4 h' M := a.2.2.1.2 q
