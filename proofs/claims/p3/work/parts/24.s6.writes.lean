/-! writes to X14: what they keep -/
theorem J4.fld {h h' : MH} {M F v : Int} (j : J4 h M) (e : h' = sa h 2495 F v) (f0 : 0 ≤ F) (f : F ≠ 3 ∧ F ≠ 16 ∧ F ≠ 18) : J4 h' M := by
  have o : Only [2495] h h' := by
    rw [e]
    exact (Only.refl _ _).set List.mem_cons_self
  have w : ∀ i : Int, 0 ≤ i → i ≠ F → ga h' 2495 i = ga h 2495 i := fun i a b => by
    rw [e]
    exact (ga_sa _ _ _ f0 a).trans (if_neg b)
  have e16 := w 16 (by decide) (Ne.symm f.2.1)
  refine ⟨j.1.cong (w 3 (by decide) (Ne.symm f.1)) (fun _ => o.ga (by decide) _) (fun _ => o.ga (by decide) _) (fun _ => o.ga (by decide) _), fun q => ?_⟩
  rw [e16] at q
  obtain ⟨T, k, tb, gs, hk, t⟩ := j.2 q
  exact ⟨T, k, tb.only o (by decide) (by decide), gs, (w 18 (by decide) (Ne.symm f.2.2)).trans hk, t.only o (by decide)⟩
theorem J4.uns {h h' : MH} {M : Int} (j : J4s h M) (e : h' = sa h 2495 16 0) : J4 h' M := by
  have o : Only [2495] h h' := by
    rw [e]
    exact (Only.refl _ _).set List.mem_cons_self
  have w : ∀ i : Int, 0 ≤ i → i ≠ 16 → ga h' 2495 i = ga h 2495 i := fun i a b => by
    rw [e]
    exact (ga_sa _ _ _ (by decide) a).trans (if_neg b)
  refine ⟨j.cong (w 3 (by decide) (by decide)) (fun _ => o.ga (by decide) _) (fun _ => o.ga (by decide) _) (fun _ => o.ga (by decide) _), fun q => absurd ?_ q⟩
  rw [e]
  exact (ga_sa _ _ _ (by decide) (by decide)).trans (if_pos rfl)
theorem J4.cel {h h' : MH} {M : Int} {cs : List Nat} (j : J4 h M) (o : Only cs h h') (n : 2495 ∉ cs ∧ 2498 ∉ cs ∧ 2499 ∉ cs ∧ 2503 ∉ cs) (n2 : 2496 ∉ cs ∧ 2497 ∉ cs ∧ 2508 ∉ cs) : J4 h' M := ⟨j.1.only o n, fun q => by
  rw [o.ga n.1] at q
  obtain ⟨T, k, tb, gs, hk, t⟩ := j.2 q
  exact ⟨T, k, tb.only o n2.1 n2.2.1, gs, (o.ga n.1 _).trans hk, t.only o n2.2.2⟩⟩
theorem Sv.cel {h h' : MH} {M : Int} {cs : List Nat} (v : Sv4 h M) (o : Only cs h h') (n : 2495 ∉ cs) (n2 : 2496 ∉ cs ∧ 2497 ∉ cs ∧ 2508 ∉ cs) : Sv4 h' M := by
  obtain ⟨T, k, tb, gs, hk, t⟩ := v
  exact ⟨T, k, tb.only o n2.1 n2.2.1, gs, (o.ga n _).trans hk, t.only o n2.2.2⟩
theorem J4.len {h h' : MH} {M k v : Int} (j : J4 h M) (e : h' = sa h 2498 k v) (k0 : 0 ≤ k) (b : 1 ≤ v ∧ v ≤ 12) : J4 h' M := by
  have o : Only [2498] h h' := by
    rw [e]
    exact (Only.refl _ _).set List.mem_cons_self
  refine ⟨⟨j.1.1, (o.ga (by decide) _).trans j.1.2.1, fun i i0 i1 => ?_, fun i i0 i1 => ?_⟩, fun q => ?_⟩
  · have a := j.1.2.2.1 i i0 i1
    have w : ga h' 2498 i = if i = k then v else ga h 2498 i := by
      rw [e]
      exact ga_sa _ _ _ k0 i0
    rw [w, o.ga (d := 2499) (by decide)]
    refine ⟨?_, a.2⟩
    split
    · exact b
    · exact a.1
  · rw [o.ga (d := 2503) (by decide)]
    exact j.1.2.2.2 i i0 i1
  · rw [o.ga (d := 2495) (by decide)] at q
    exact (j.2 q).cel o (by decide) (by decide)
theorem J4.stf {h h' : MH} {M k v : Int} (j : J4 h M) (e : h' = sa h 2499 k v) (k0 : 0 ≤ k) (b : 1 ≤ v ∧ v ≤ 12) : J4 h' M := by
  have o : Only [2499] h h' := by
    rw [e]
    exact (Only.refl _ _).set List.mem_cons_self
  refine ⟨⟨j.1.1, (o.ga (by decide) _).trans j.1.2.1, fun i i0 i1 => ?_, fun i i0 i1 => ?_⟩, fun q => ?_⟩
  · have a := j.1.2.2.1 i i0 i1
    have w : ga h' 2499 i = if i = k then v else ga h 2499 i := by
      rw [e]
      exact ga_sa _ _ _ k0 i0
    rw [w, o.ga (d := 2498) (by decide)]
    refine ⟨a.1, ?_⟩
    split
    · exact b
    · exact a.2
  · rw [o.ga (d := 2503) (by decide)]
    exact j.1.2.2.2 i i0 i1
  · rw [o.ga (d := 2495) (by decide)] at q
    exact (j.2 q).cel o (by decide) (by decide)
theorem J4.stl {h h' : MH} {M k v : Int} (j : J4 h M) (e : h' = sa h 2503 k v) (k0 : 0 ≤ k) (b : -1000 ≤ v ∧ v ≤ 1000) : J4 h' M := by
  have o : Only [2503] h h' := by
    rw [e]
    exact (Only.refl _ _).set List.mem_cons_self
  refine ⟨⟨j.1.1, (o.ga (by decide) _).trans j.1.2.1, fun i i0 i1 => ?_, fun i i0 i1 => ?_⟩, fun q => ?_⟩
  · rw [o.ga (d := 2498) (by decide), o.ga (d := 2499) (by decide)]
    exact j.1.2.2.1 i i0 i1
  · have w : ga h' 2503 i = if i = k then v else ga h 2503 i := by
      rw [e]
      exact ga_sa _ _ _ k0 i0
    rw [w]
    split
    · exact b
    · exact j.1.2.2.2 i i0 i1
  · rw [o.ga (d := 2495) (by decide)] at q
    exact (j.2 q).cel o (by decide) (by decide)
theorem R8.cel {h h' : MH} {M : Int} {cs : List Nat} (r : R8 h M) (o : Only cs h h') (n : 2495 ∉ cs ∧ 2505 ∉ cs ∧ 2506 ∉ cs ∧ 2507 ∉ cs) : R8 h' M := by
  unfold R8
  rw [o.ga n.1]
  refine ⟨r.1, fun i a b => ?_⟩
  rw [o.ga n.2.1, o.ga n.2.2.1, o.ga n.2.2.2]
  exact r.2 i a b
theorem R8.fld {h h' : MH} {M F v : Int} (r : R8 h M) (e : h' = sa h 2495 F v) (f0 : 0 ≤ F) (f : F ≠ 12) : R8 h' M := by
  have o : Only [2495] h h' := by
    rw [e]
    exact (Only.refl _ _).set List.mem_cons_self
  have w : ga h' 2495 12 = ga h 2495 12 := by
    rw [e]
    exact (ga_sa _ _ _ f0 (by decide)).trans (if_neg (Ne.symm f))
  unfold R8
  rw [w]
  refine ⟨r.1, fun i a b => ?_⟩
  rw [o.ga (d := 2505) (by decide), o.ga (d := 2506) (by decide), o.ga (d := 2507) (by decide)]
  exact r.2 i a b
/-- all that always holds of X14 -/
def J14 (h : MH) (M : Int) : Prop := J4 h M ∧ R8 h M ∧ 0 ≤ ga h 2495 10 ∧ ga h 2495 10 ≤ 50
/-- the cells of X14 -/
abbrev C14 : List Nat := [2495, 2496, 2497, 2498, 2499, 2500, 2501, 2502, 2503, 2504, 2505, 2506, 2507, 2508, 2509, 2510, 2511, 2512, 2513]
theorem Rk.j14 {h h' : MH} {M : Int} (a : Rk h h' M) (j : J14 h M) : J14 h' M ∧ Only C14 h h' := ⟨⟨a.j, a.r8 j.2.1, by
  rw [a.2.1 10 (by decide) (by decide) (by decide) (by decide) (by decide)]
  exact j.2.2⟩, a.1.mono (by decide)⟩
theorem J14.fld {h h' : MH} {M F v : Int} (j : J14 h M) (e : h' = sa h 2495 F v) (f0 : 0 ≤ F) (f : F ≠ 3 ∧ F ≠ 16 ∧ F ≠ 18) (f2 : F ≠ 12 ∧ F ≠ 10) : J14 h' M := ⟨j.1.fld e f0 f, j.2.1.fld e f0 f2.1, by
  rw [e, ga_sa _ _ _ f0 (by decide), if_neg (Ne.symm f2.2)]
  exact j.2.2⟩
theorem J14.cel {h h' : MH} {M : Int} {cs : List Nat} (j : J14 h M) (o : Only cs h h') (n : 2495 ∉ cs ∧ 2498 ∉ cs ∧ 2499 ∉ cs ∧ 2503 ∉ cs) (n2 : 2496 ∉ cs ∧ 2497 ∉ cs ∧ 2508 ∉ cs) (n3 : 2505 ∉ cs ∧ 2506 ∉ cs ∧ 2507 ∉ cs) : J14 h' M := ⟨j.1.cel o n n2, j.2.1.cel o ⟨n.1, n3⟩, by
  rw [o.ga n.1]
  exact j.2.2⟩
theorem J14.j {h h' : MH} {M : Int} (j : J14 h M) (k : J4 h' M) {c : Nat} {i v : Int} (e : h' = sa h c i v) (n : c ≠ 2495 ∧ c ≠ 2505 ∧ c ≠ 2506 ∧ c ≠ 2507) : J14 h' M := by
  have o : Only [c] h h' := by
    rw [e]
    exact (Only.refl _ _).set List.mem_cons_self
  have m : ∀ d : Nat, c ≠ d → d ∉ [c] := fun d q w => q (List.mem_singleton.mp w).symm
  exact ⟨k, j.2.1.cel o ⟨m _ n.1, m _ n.2.1, m _ n.2.2.1, m _ n.2.2.2⟩, by rw [o.ga (m _ n.1)]; exact j.2.2⟩
theorem J14.uns {h h' : MH} {M : Int} (j : J14 h M) (e : h' = sa h 2495 16 0) : J14 h' M := ⟨J4.uns j.1.1 e, j.2.1.fld e (by decide) (by decide), by
  rw [e, ga_sa _ _ _ (by decide) (by decide), if_neg (by decide)]
  exact j.2.2⟩
/-- one number is written -/
theorem Only.wr {h h' : MH} {c : Nat} {i v : Int} (e : h' = sa h c i v) : Only [c] h h' := by
  rw [e]
  exact (Only.refl _ _).set List.mem_cons_self
theorem ga_wr {h h' : MH} {c : Nat} {i v : Int} (e : h' = sa h c i v) (i0 : 0 ≤ i) {j : Int} (j0 : 0 ≤ j) : ga h' c j = if j = i then v else ga h c j := by
  rw [e]
  exact ga_sa _ _ _ i0 j0
