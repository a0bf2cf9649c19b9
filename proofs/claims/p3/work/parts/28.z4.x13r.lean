/-! X13 by hand: rings through one arc -/
def BY13 (h : MH) : Prop := ∀ v : Int, 0 ≤ v → v ≤ 33 → -140 ≤ ga h 2493 v ∧ ga h 2493 v ≤ 140
theorem WI13.by {h : MH} {wo fr : Int} {N : Nt13} {π fa : Int → Int} (nr : NR13 N) (w : WI13 N π fr fa (ga h 2493)) : BY13 h := fun v v0 v1 => by
  by_cases q : ga h 2493 v = 0
  · omega
  · have e := (w.2.2.1 v v0 v1 q).1
    have := eb13_is q
    have := e.2.1
    have := nr.1
    omega
theorem TC13.no {N : Nt13} {π : Int → Int} {fr to : Int} {fa by' : Int → Int} {n : Nat} (w : WI13 N π fr fa by') (p : Pt13 N by' fr to n) {ls : Int} {fl2 : Int → Int} {g : Int} (g0 : 0 ≤ g) (t : TC13 N by' to n ls fl2 g) (hw : nwo N = g) : fl2 g = nfl N g := by
  rcases t.tt w p g0 with q | ⟨i, i1, i2⟩
  · exact q
  · have pi := p i i1
    have eo := (w.2.2.1 _ pi.2.2.1 pi.2.2.2 pi.2.1).1
    exact absurd (i2.trans hw.symm) eo.2.2.1
theorem ex13.add {N : Nt13} {fl fl2 : Int → Int} {e v u : Int} (e0 : 0 ≤ e) (eA : e < nA N) (h : ∀ g : Int, 0 ≤ g → fl2 g = if g = e then fl e + v else fl g) : ex13 N fl2 u = ex13 N fl u + (if nfn N e = u then v else if nbg N e = u then -v else 0) := by
  have a := (sm12_set (f := ef13 N fl u) (g := ef13 N fl2 u) e0 (fun j j0 jn => by
    unfold ef13
    rw [h j j0, if_neg jn]) (n := (nA N).toNat)).1 (by omega)
  have hh := h e e0
  rw [if_pos rfl] at hh
  have E : ef13 N fl2 u e - ef13 N fl u e = if nfn N e = u then v else if nbg N e = u then -v else 0 := by
    unfold ef13
    rw [hh]
    repeat' split
    all_goals omega
  unfold ex13
  rw [a, E]
/-- what is kept while rings are turned -/
def FI13 (h x : MH) (π : Int → Int) (e : Int) : Prop := Only [2490, 2491, 2492, 2493] h x ∧ NB13 x ∧ PV13 (N13 x (-1)) π ∧ (∀ u : Int, 13 ≤ u → u ≤ 20 → ex13 (N13 h (-1)) (ga x 2490) u = 0) ∧ (∀ g : Int, e ≤ g → g < ga h 2468 22 → ga x 2491 g = 0) ∧ BY13 x
theorem N13.only {h x : MH} (o : Only [2490, 2491, 2492, 2493] h x) : ga x 2486 = ga h 2486 ∧ ga x 2487 = ga h 2487 ∧ ga x 2488 = ga h 2488 ∧ ga x 2489 = ga h 2489 ∧ ga x 2468 = ga h 2468 := ⟨onlyF o (by decide), onlyF o (by decide), onlyF o (by decide), onlyF o (by decide), onlyF o (by decide)⟩
/-- a walk in between -/
theorem FI13.walk {h x y : MH} {π : Int → Int} {e wo fr : Int} (f : FI13 h x π e) (nr : NR13 (N13 x wo)) (o : Only [2492, 2493] x y) (w : WI13 (N13 x wo) π fr (ga y 2492) (ga y 2493)) : FI13 h y π e ∧ N13 y wo = N13 x wo := by
  obtain ⟨f1, f2, f3, f4, f5, f6⟩ := f
  have en : ∀ wo, N13 y wo = N13 x wo := fun wo => N13.eq (fun c hc => onlyF o (by revert hc; revert c; decide)) (o.ga (by decide) _) wo
  refine ⟨⟨f1.trans (o.mono (by decide)), f2.keep (fun c hc => onlyF o (by revert hc; revert c; decide)) (o.ga (by decide) _), by rw [en]; exact f3, fun u a b => by rw [onlyF o (by decide)]; exact f4 u a b, fun g a b => by rw [o.ga (by decide)]; exact f5 g a b, WI13.by (h := y) (wo := wo) (fr := fr) nr w⟩, en wo⟩
/-- a flow of an arc of moves is not great -/
theorem FI13.small {h x : MH} {π : Int → Int} {e g c : Int} (f : FI13 h x π e) (nr : NR13 (N13 h (-1))) (ar : AR13 h) (g0 : 0 ≤ g) (gA : g < ga h 2468 22) (c0 : 13 ≤ c ∧ c ≤ 20) (ec : ga h 2487 g = c) : 0 ≤ ga x 2490 g ∧ ga x 2490 g ≤ 140000280 := by
  obtain ⟨f1, f2, f3, f4, f5, f6⟩ := f
  obtain ⟨n1, n2, n3, n4, n5⟩ := N13.only f1
  refine ⟨(f2 g g0 (by rw [n5]; exact gA)).1.1, ?_⟩
  refine ex13.le nr (f4 c c0.1 c0.2) (fun j j0 j1 => ?_) g0 gA ec
  have b := f2 j j0 (by rw [n5]; exact j1)
  refine ⟨b.1.1, fun q => ?_⟩
  have q : ga h 2486 j = c := q
  have a := (ar j j0 j1).2.2 (by omega) (by omega)
  rw [n3] at b
  omega
theorem FI13.ring {h x y z : MH} {π : Int → Int} {e c b v : Int} (f : FI13 h x π e) (nr : NR13 (N13 h (-1))) (ar : AR13 h) (e0 : 0 ≤ e) (eA : e < ga h 2468 22) (eb : ga h 2486 e = b) (ec : ga h 2487 e = c) (b0 : 1 ≤ b ∧ b ≤ 12) (c0 : 13 ≤ c ∧ c ≤ 20) (w : WI13 (N13 x e) π c (ga x 2492) (ga x 2493)) (fx : FX13 (N13 x e) (ga x 2492)) (z0 : ga x 2492 b + ga h 2489 e = 0)
    (o : Only [2490] x y) (g : GO13 x y e c b v) (v1 : 1 ≤ v ∧ v ≤ 1125899906842624) (oz : z = sa y 2490 e (ga y 2490 e + v)) : FI13 h z π e ∧ PS13 z e c < PS13 x e c ∧ ga y 2490 e = ga x 2490 e := by
  have f0 := f
  obtain ⟨f1, f2, f3, f4, f5, f6⟩ := f
  obtain ⟨n1, n2, n3, n4, n5⟩ := N13.only f1
  have g00 := g
  obtain ⟨n, p, hn, pr, t, xx⟩ := g
  have sm := f0.small nr ar e0 eA c0 ec
  have mo : ga h 2488 e = 1125899906842624 := ((ar e e0 eA).2.1 (by omega) (by omega)).2
  have nrx : NR13 (N13 x e) := nr.keep (fun c hc => onlyF f1 (by revert hc; revert c; decide)) (by rw [n5])
  have no : ga y 2490 e = ga x 2490 e := TC13.no w p e0 (t e e0) rfl
  -- the arc itself
  have pe := f3 c (e + 1) ⟨by omega, by rw [(eb13_p e0).1]; exact ⟨e0, by show e < ga x 2468 22; rw [n5]; exact eA⟩, by rw [(eb13_p e0).1]; show e ≠ -1; omega, by rw [(eb13_p e0).1]; exact f5 e (Int.le_refl _) eA, fun _ => by rw [(eb13_p e0).1]; show ga x 2487 e = c; rw [n2]; exact ec, fun q => absurd (eb13_p e0).2 q, by
    unfold ro13
    rw [if_pos (eb13_p e0).2, (eb13_p e0).1]
    show 0 < ga x 2488 e - ga x 2490 e
    rw [n3]
    omega⟩
  unfold pa13 co13 at pe
  rw [if_pos (eb13_p e0).2, if_pos (eb13_p e0).2, (eb13_p e0).1] at pe
  have pe : π c ≤ π (ga x 2486 e) + ga x 2489 e := pe
  rw [n1, n4, eb] at pe
  have fb : ga x 2492 b < M50 := by
    have := (nr.2 e e0 eA).2.2
    have : 0 ≤ ga h 2489 e := this.1
    unfold M50
    omega
  have lo := (w.2.1 b (by omega) (by omega)).2.2 fb
  have d0 : ga x 2492 b - π b + π c = 0 := by omega
  have rg := PV13.ring nrx (PV13.wo e f3) w fx p d0 t
  have rg : PV13 (N13 y e) π := by rw [N13.flow o]; exact rg
  have nby := f2.go o g00 v1.1
  have psy := PS13.go w (by omega) o g00 v1.1
  -- the last write
  have zf : ∀ j : Int, 0 ≤ j → ga z 2490 j = if j = e then ga y 2490 e + v else ga y 2490 j := fun j a => by rw [oz]; exact ga_sa _ _ _ e0 a
  have oyz : Only [2490] y z := by rw [oz]; exact (Only.refl _ _).set (by decide)
  have oxz : Only [2490, 2491, 2492, 2493] x z := (o.trans oyz).mono (by decide)
  obtain ⟨m1, m2, m3, m4, m5⟩ := N13.only (f1.trans oxz)
  have exz : ∀ u : Int, 13 ≤ u → u ≤ 20 → ex13 (N13 h (-1)) (ga z 2490) u = 0 := fun u u0 u1 => by
    rw [ex13.add (N := N13 h (-1)) e0 eA zf]
    have q := xx u
    rw [ex13.st (N := N13 h (-1)) (N' := N13 x e) n2 n1 (by show ga x 2468 22 = ga h 2468 22; rw [n5]), ex13.st (N := N13 h (-1)) (N' := N13 x e) n2 n1 (by show ga x 2468 22 = ga h 2468 22; rw [n5]), f4 u u0 u1, if_neg (show u ≠ b by omega)] at q
    rw [q]
    show 0 + 0 - (if u = c then v else 0) + (if ga h 2487 e = u then v else if ga h 2486 e = u then -v else 0) = 0
    rw [ec, eb]
    repeat' split
    all_goals omega
  have fz : FI13 h z π e := by
    refine ⟨f1.trans oxz, fun j j0 j1 => ?_, ?_, exz, fun g a b' => ?_, fun v' a b' => ?_⟩
    · rw [m5] at j1
      rw [zf j j0, m3]
      by_cases q : j = e
      · rw [if_pos q, q, mo]
        have le : ga z 2490 e ≤ 140000280 := by
          refine ex13.le nr (exz c c0.1 c0.2) (fun i i0 i1 => ?_) e0 eA ec
          rw [zf i i0]
          have bi := nby i i0 (by rw [o.ga (by decide), n5]; exact i1)
          rw [o.ga (d := 2488) (by decide), n3] at bi
          by_cases r : i = e
          · rw [if_pos r]
            refine ⟨by omega, fun q => ?_⟩
            have q : ga h 2486 i = c := q
            rw [r, eb] at q
            omega
          · rw [if_neg r]
            refine ⟨bi.1.1, fun q => ?_⟩
            have q : ga h 2486 i = c := q
            have := (ar i i0 i1).2.2 (by omega) (by omega)
            omega
        rw [zf e e0, if_pos rfl] at le
        omega
      · rw [if_neg q]
        have := nby j j0 (by rw [o.ga (by decide), n5]; exact j1)
        rw [o.ga (d := 2488) (by decide), n3] at this
        exact this
    · rintro v' y' ⟨y0, y1, y2, y3, y4, y5, y6⟩
      have sE : ∀ a, ga z a = ga y a ∨ a = 2490 := fun a => by
        by_cases q : a = 2490
        · exact Or.inr q
        · exact Or.inl (onlyF oyz (by simpa using q))
      have s1 : ga z 2486 = ga y 2486 := onlyF oyz (by decide)
      have s2 : ga z 2487 = ga y 2487 := onlyF oyz (by decide)
      have s3 : ga z 2488 = ga y 2488 := onlyF oyz (by decide)
      have s4 : ga z 2489 = ga y 2489 := onlyF oyz (by decide)
      have s5 : ga z 2491 = ga y 2491 := onlyF oyz (by decide)
      have s6 : ga z 2468 = ga y 2468 := onlyF oyz (by decide)
      by_cases q : eb13 y' = e
      · -- both ways of the arc cost nothing
        have eq : π c = π b + ga h 2489 e := by omega
        unfold pa13 co13
        rw [q] at y4 y5 ⊢
        by_cases r : 0 < y'
        · have y4 : ga z 2487 e = v' := y4 r
          rw [if_pos r, if_pos r]
          show π v' ≤ π (ga z 2486 e) + ga z 2489 e
          rw [m1, m4, eb, ← y4, m2, ec]
          omega
        · have y5 : ga z 2486 e = v' := y5 r
          rw [if_neg r, if_neg r]
          show π v' ≤ π (ga z 2487 e) + -ga z 2489 e
          rw [m2, m4, ec, ← y5, m1, eb]
          omega
      · have y1a : eb13 y' < ga z 2468 22 := y1.2
        have y3a : ga z 2491 (eb13 y') = 0 := y3
        have rr := rg v' y' ⟨y0, ⟨y1.1, by show eb13 y' < ga y 2468 22; rw [← s6]; exact y1a⟩, q, by show ga y 2491 (eb13 y') = 0; rw [← s5]; exact y3a, fun r => by have : ga z 2487 (eb13 y') = v' := y4 r; show ga y 2487 (eb13 y') = v'; rw [← s2]; exact this, fun r => by have : ga z 2486 (eb13 y') = v' := y5 r; show ga y 2486 (eb13 y') = v'; rw [← s1]; exact this, by
          unfold ro13 at y6 ⊢
          have y6 : 0 < (if 0 < y' then ga z 2488 (eb13 y') - ga z 2490 (eb13 y') else ga z 2490 (eb13 y')) := y6
          rw [zf _ y1.1, if_neg q, s3] at y6
          exact y6⟩
        have rr : π v' ≤ π (if 0 < y' then ga y 2486 (eb13 y') else ga y 2487 (eb13 y')) + (if 0 < y' then ga y 2489 (eb13 y') else -ga y 2489 (eb13 y')) := rr
        show π v' ≤ π (if 0 < y' then ga z 2486 (eb13 y') else ga z 2487 (eb13 y')) + (if 0 < y' then ga z 2489 (eb13 y') else -ga z 2489 (eb13 y'))
        rw [s1, s2, s4]
        exact rr
    · rw [(o.trans oyz).ga (by decide)]
      exact f5 g a b'
    · rw [(o.trans oyz).ga (by decide)]
      exact f6 v' a b'
  refine ⟨fz, ?_, no⟩
  have k := PS13.keep (e := e) (c := c) (fun d hd => onlyF oyz (by revert hd; revert d; decide)) (fun g a b' => by rw [zf g a, if_neg b']) (oyz.ga (by decide) _)
  omega
theorem FI13.done {h x y : MH} {π : Int → Int} {e : Int} (f : FI13 h x π e) (e0 : 0 ≤ e) (oy : y = sa x 2491 e 1) : FI13 h y π (e + 1) := by
  obtain ⟨f1, f2, f3, f4, f5, f6⟩ := f
  have o : Only [2491] x y := by rw [oy]; exact (Only.refl _ _).set (by decide)
  have zf : ∀ j : Int, 0 ≤ j → ga y 2491 j = if j = e then 1 else ga x 2491 j := fun j a => by rw [oy]; exact ga_sa _ _ _ e0 a
  refine ⟨f1.trans (o.mono (by decide)), f2.keep (fun c hc => onlyF o (by revert hc; revert c; decide)) (o.ga (by decide) _), ?_, fun u a b => by rw [onlyF o (by decide)]; exact f4 u a b, fun g a b => ?_, fun v a b => by rw [o.ga (by decide)]; exact f6 v a b⟩
  · have := PV13.dn f3 (dn := ga y 2491) (fun g g0 q => by
      rw [zf g g0] at q
      split at q
      · cases q
      · exact q)
    have e1 : N13 y (-1) = (nbg (N13 x (-1)), nfn (N13 x (-1)), nmo (N13 x (-1)), npr (N13 x (-1)), nfl (N13 x (-1)), ga y 2491, nA (N13 x (-1)), nwo (N13 x (-1))) := by
      show (ga y 2486, ga y 2487, ga y 2488, ga y 2489, ga y 2490, ga y 2491, ga y 2468 22, (-1 : Int)) = (ga x 2486, ga x 2487, ga x 2488, ga x 2489, ga x 2490, ga y 2491, ga x 2468 22, (-1 : Int))
      rw [onlyF o (by decide), onlyF o (d := 2487) (by decide), onlyF o (d := 2488) (by decide), onlyF o (d := 2489) (by decide), onlyF o (d := 2490) (by decide), o.ga (by decide)]
    rw [e1]
    exact this
  · rw [zf g (by omega), if_neg (by omega)]
    exact f5 g (by omega) b
