/-! X19: fields that stand apart -/
theorem J19.fl {h h' : MH} {cn F v : Int} (j : J19 h cn) (e : h' = sa h 2514 F v) (f0 : 0 ≤ F) (n : F ≠ 2 ∧ F ≠ 6 ∧ F ≠ 7 ∧ F ≠ 13 ∧ F ≠ 14 ∧ F ≠ 15 ∧ F ≠ 17 ∧ F ≠ 21 ∧ F ≠ 24 ∧ F ≠ 26) : J19 h' cn := by
  have o := Only.wr e
  have f : ∀ j : Int, 0 ≤ j → j ≠ F → ga h' 2514 j = ga h 2514 j := fun j a b => (ga_wr e f0 a).trans (if_neg b)
  refine ⟨j.1.fl (o.mono (by decide)) (fun i q => f i (by omega) (by omega)) (j.1.2.2.2.2.same fun i q => f i (by omega) (by omega)), ?_⟩
  unfold Q9
  rw [f 6 (by decide) (by omega), f 13 (by decide) (by omega)]
  exact ⟨fun q => ⟨(j.2.1 q).1.o o (by decide), (j.2.1 q).2.o o (by decide)⟩, fun q => ⟨(j.2.2 q).1, (j.2.2 q).2.o o (by decide)⟩⟩
theorem Q9.o {h h' : MH} {cn : Int} {cs : List Nat} (q : Q9 h cn) (o : Only cs h h') (k : 2515 ∉ cs ∧ 2516 ∉ cs ∧ 2517 ∉ cs) (f : ga h' 2514 6 = ga h 2514 6 ∧ ga h' 2514 13 = ga h 2514 13) : Q9 h' cn := by
  unfold Q9
  rw [f.1, f.2]
  exact ⟨fun w => ⟨(q.1 w).1.o o ⟨k.1, k.2.1⟩, (q.1 w).2.o o k⟩, fun w => ⟨(q.2 w).1, (q.2 w).2.o o ⟨k.1, k.2.1⟩⟩⟩
/-- where a line meets 0 -/
theorem meet_b {ln x y : Int} (hl : 0 ≤ ln ∧ ln ≤ 400) (hx : 0 ≤ x ∧ x ≤ 1000000000) (hy : 0 ≤ y ∧ y ≤ 1000000000) (n : 0 < x + y) : 0 ≤ Int.tdiv (ln * x) (x + y) ∧ Int.tdiv (ln * x) (x + y) ≤ 400 := by
  have m := mul_b hl hx
  rw [Int.tdiv_eq_ediv_of_nonneg m.1]
  refine ⟨Int.ediv_nonneg m.1 (by omega), ?_⟩
  have a : ln * x ≤ 400 * (x + y) := by
    have b : ln * x ≤ 400 * x := Int.mul_le_mul_of_nonneg_right hl.2 hx.1
    omega
  exact Int.ediv_le_of_le_mul n a
