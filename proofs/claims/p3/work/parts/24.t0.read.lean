theorem RF.j14 {h0 h : MH} {M : Int} (x : RF h0 h) (j : J14 h0 M) : J14 h M := by
  have e := x.2.1
  have o := x.1
  have e16 := e 16 (by decide) (by decide)
  have e12 := e 12 (by decide) (by decide)
  refine ⟨⟨j.1.1.cong (e 3 (by decide) (by decide)) (fun _ => o.ga (by decide) _) (fun _ => o.ga (by decide) _) (fun _ => o.ga (by decide) _), fun q => ?_⟩, ?_, ?_⟩
  · rw [e16] at q
    obtain ⟨T, k, tb, gs, hk, t⟩ := j.1.2 q
    exact ⟨T, k, tb.only o (by decide) (by decide), gs, (e 18 (by decide) (by decide)).trans hk, t.only o (by decide)⟩
  · unfold R8
    rw [e12]
    refine ⟨j.2.1.1, fun i a b => ?_⟩
    rw [o.ga (d := 2505) (by decide), o.ga (d := 2506) (by decide), o.ga (d := 2507) (by decide)]
    exact j.2.1.2 i a b
  · rw [e 10 (by decide) (by decide)]
    exact j.2.2
theorem J14.size0 {h h' : MH} {M : Int} (j : J14 h M) (e : h' = sa h 2495 10 0) : J14 h' M := ⟨j.1.fld e (by decide) (by decide), j.2.1.fld e (by decide) (by decide), by
  have w : ga h' 2495 10 = 0 := (ga_wr e (by decide) (by decide)).trans (if_pos rfl)
  rw [w]
  decide⟩
theorem RF.refl {h : MH} (b : 0 ≤ ga h 2495 20 ∧ ga h 2495 20 ≤ ga h 2495 10) : RF h h := ⟨Only.refl _ _, fun _ _ _ => rfl, b⟩
