/-! what the law's loop carries -/
def ln8 (h : MH) (c : Int) : Int := gz h 791 c
def rg8 (h : MH) (c k : Int) : Int := gz h (774 + c) k
def cy8 (h : MH) (c k : Int) : Int := gz h (783 + c) k
def lnR (h : MH) (c : Int) : Int := gz h 2540 c
def rgR (h : MH) (c k : Int) : Int := gz h 2541 (4 * c + k)
def cyR (h : MH) (c k : Int) : Int := gz h 2542 (4 * c + k)
/-- both sides have the same lines of each class -/
def LQe (h : MH) : Prop := ∀ c : Int, 0 ≤ c → c < 8 → ln8 h c = lnR h c ∧ ∀ k : Int, 0 ≤ k → k < ln8 h c → rg8 h c k = rgR h c k ∧ cy8 h c k = cyR h c k
/-- in a line's range and cycles; the ranges fall -/
def LQb (h : MH) : Prop := ∀ c : Int, 0 ≤ c → c < 8 → (0 ≤ ln8 h c ∧ ln8 h c ≤ 4) ∧ (∀ k : Int, 0 ≤ k → k < ln8 h c → (1 ≤ rg8 h c k ∧ rg8 h c k ≤ 2000000) ∧ (1 ≤ cy8 h c k ∧ cy8 h c k ≤ 1000000)) ∧ ∀ k : Int, 0 ≤ k → k + 1 < ln8 h c → rg8 h c (k + 1) < rg8 h c k
def LQ (h : MH) : Prop := LQe h ∧ LQb h
/-- how many slots the search's arrays may still take, by the length of those that it has -/
def GL (n : Nat) : Nat := if n < 9792 then 548352 else if n < 39168 then 509184 else if n < 88128 then 352512 else 0
/-- the length of the search's arrays -/
def gLen (h : MH) : Nat := (h.2 (gz h 27 3).toNat).2.1
def Phi (h : MH) : Nat := GL (gLen h)
def dLQ (M : List ZR) : Bool := M.all fun m => zdis m (791, 791, 1, 0) && (zdis m (774, 781, 1, 0) && (zdis m (783, 790, 1, 0) && zdis m (2540, 2542, 1, 0)))
def dPh (M : List ZR) : Bool := M.all fun m => zdis m (27, 27, 3, 3)
def dJn (M : List ZR) : Bool := M.all fun m => zdis m (1319, 1319, 2, 2) && zdis m (2570, 2570, 6, 6)
theorem Frm.at {M : List ZR} {h h' : MH} (F : Frm M h h') {r i : Int} {z : ZR} (b : ∀ m ∈ M, zdis m z = true) (hz : inZ z r i) : gz h' r i = gz h r i :=
  F.2.2 r i fun m hm q => zdis_of (b m hm) q hz
theorem LQe.frm {M : List ZR} {h h' : MH} (b : dLQ M = true) (F : Frm M h h') (q : LQe h) : LQe h' := by
  have b1 := fun m hm => andB (List.all_eq_true.mp b m hm)
  have b2 := fun m hm => andB (b1 m hm).2
  have b3 := fun m hm => andB (b2 m hm).2
  have e1 : ∀ c : Int, ln8 h' c = ln8 h c := fun c => F.at (fun m hm => (b1 m hm).1) ⟨⟨by decide, Or.inr (by decide)⟩, Or.inl (by decide : (0 : Nat) < 1)⟩
  have e2 : ∀ c k : Int, 0 ≤ c → c < 8 → rg8 h' c k = rg8 h c k := fun c k c0 c8 => F.at (fun m hm => (b2 m hm).1) ⟨⟨by show (774 : Int) ≤ 774 + c; omega, Or.inr (by show (774 : Int) + c ≤ 781; omega)⟩, Or.inl (by decide : (0 : Nat) < 1)⟩
  have e3 : ∀ c k : Int, 0 ≤ c → c < 8 → cy8 h' c k = cy8 h c k := fun c k c0 c8 => F.at (fun m hm => (b3 m hm).1) ⟨⟨by show (783 : Int) ≤ 783 + c; omega, Or.inr (by show (783 : Int) + c ≤ 790; omega)⟩, Or.inl (by decide : (0 : Nat) < 1)⟩
  have e4 : ∀ r k : Int, 2540 ≤ r → r ≤ 2542 → gz h' r k = gz h r k := fun r k r0 r1 => F.at (fun m hm => (b3 m hm).2) ⟨⟨r0, Or.inr r1⟩, Or.inl (by decide : (0 : Nat) < 1)⟩
  intro c c0 c8
  obtain ⟨q1, q2⟩ := q c c0 c8
  rw [e1]
  refine ⟨q1.trans (e4 2540 c (by decide) (by decide)).symm, fun k k0 k1 => ?_⟩
  obtain ⟨q3, q4⟩ := q2 k k0 k1
  rw [e2 c k c0 c8, e3 c k c0 c8]
  exact ⟨q3.trans (e4 2541 _ (by decide) (by decide)).symm, q4.trans (e4 2542 _ (by decide) (by decide)).symm⟩
theorem LQb.same {h h' : MH} (e : ∀ c : Int, 0 ≤ c → c < 8 → ln8 h' c = ln8 h c ∧ ∀ k : Int, rg8 h' c k = rg8 h c k ∧ cy8 h' c k = cy8 h c k) (q : LQb h) : LQb h' := by
  intro c c0 c8
  obtain ⟨q1, q2, q3⟩ := q c c0 c8
  obtain ⟨e1, e2⟩ := e c c0 c8
  rw [e1]
  refine ⟨q1, fun k k0 k1 => ?_, fun k k0 k1 => ?_⟩
  · rw [(e2 k).1, (e2 k).2]
    exact q2 k k0 k1
  · rw [(e2 k).1, (e2 (k + 1)).1]
    exact q3 k k0 k1
theorem LQb.frm {M : List ZR} {h h' : MH} (b : dLQ M = true) (F : Frm M h h') (q : LQb h) : LQb h' := by
  have b1 := fun m hm => andB (List.all_eq_true.mp b m hm)
  have b2 := fun m hm => andB (b1 m hm).2
  have b3 := fun m hm => andB (b2 m hm).2
  exact q.same fun c c0 c8 => ⟨F.at (fun m hm => (b1 m hm).1) ⟨⟨by decide, Or.inr (by decide)⟩, Or.inl (by decide : (0 : Nat) < 1)⟩, fun k => ⟨F.at (fun m hm => (b2 m hm).1) ⟨⟨by show (774 : Int) ≤ 774 + c; omega, Or.inr (by show (774 : Int) + c ≤ 781; omega)⟩, Or.inl (by decide : (0 : Nat) < 1)⟩, F.at (fun m hm => (b3 m hm).1) ⟨⟨by show (783 : Int) ≤ 783 + c; omega, Or.inr (by show (783 : Int) + c ≤ 790; omega)⟩, Or.inl (by decide : (0 : Nat) < 1)⟩⟩⟩
theorem LQ.frm {M : List ZR} {h h' : MH} (b : dLQ M = true) (F : Frm M h h') (q : LQ h) : LQ h' := ⟨q.1.frm b F, q.2.frm b F⟩
theorem in303 : inZ (27, 27, 3, 3) 27 3 := ⟨⟨by decide, Or.inr (by decide)⟩, Or.inr ⟨by decide, by decide⟩⟩
/-- the search's arrays are there -/
theorem JJ.room {h : MH} (J : JJ zJ h) : 30 ≤ gz h 27 3 ∧ (gz h 27 3).toNat < h.1 := by
  have a := J.2 zi_X6_rg_cost (by decide +kernel)
  unfold zGl at a
  rw [(zG_is (by decide +kernel : (match zG.1 zi_X6_rg_cost with
      | some x => zBeq x ([60002], [((27, 27, 3, 3), (27, []), (3, []), (0, [(60002, 1)]))], [], [((-30), [(60002, 1)])])
      | none => false) = true))] at a
  have a := a (fun _ => gz h 27 3) (fun _ => gz h 27 3) (fun _ _ => rfl) (List.forall_mem_cons.mpr ⟨⟨in303, ?_⟩, fun _ y => absurd y List.not_mem_nil⟩) (fun _ y => absurd y List.not_mem_nil)
  · have z0 : (0 : Int) ≤ (-30) + (1 * gz h 27 3 + 0) := a _ List.mem_cons_self
    have w := J.2 zi_X6_kd_cost (by decide +kernel)
    unfold zGl at w
    rw [(zG_is (by decide +kernel : (match zG.1 zi_X6_kd_cost with
      | some x => zBeq x ([60002, 60003], [((27, 27, 3, 3), (27, []), (3, []), (0, [(60002, 1)])), ((30, 0, 1099511627776, 1099511627776), (0, [(60002, 1)]), (1099511627776, []), (0, [(60003, 1)]))], [], [((-2), [(60003, 1)]), (2, [(60003, (-1))])])
      | none => false) = true))] at w
    have w := w (fun v => bif Nat.beq v 60003 then gz h (gz h 27 3) 1099511627776 else gz h 27 3) (fun v => bif Nat.beq v 60003 then gz h (gz h 27 3) 1099511627776 else gz h 27 3) (fun _ _ => rfl) (List.forall_mem_cons.mpr ⟨⟨in303, ?_⟩, List.forall_mem_cons.mpr ⟨⟨?_, ?_⟩, fun _ y => absurd y List.not_mem_nil⟩⟩) (fun _ y => absurd y List.not_mem_nil)
    · have w0 : (0 : Int) ≤ (-2) + (1 * gz h (gz h 27 3) 1099511627776 + 0) := w _ List.mem_cons_self
      exact ⟨by omega, (gz_kd (by omega)).2.1⟩
    · show gz h 27 3 = 0 + (1 * gz h 27 3 + 0)
      omega
    · show inZ (30, 0, 1099511627776, 1099511627776) (0 + (1 * gz h 27 3 + 0)) 1099511627776
      exact ⟨⟨by show (30 : Int) ≤ _; omega, Or.inl rfl⟩, Or.inr ⟨by decide, by decide⟩⟩
    · show gz h (0 + (1 * gz h 27 3 + 0)) 1099511627776 = 0 + (1 * gz h (gz h 27 3) 1099511627776 + 0)
      rw [show (0 + (1 * gz h 27 3 + 0) : Int) = gz h 27 3 by omega]
      omega
  · show gz h 27 3 = 0 + (1 * gz h 27 3 + 0)
    omega
theorem gLen.frm {M : List ZR} {h h' : MH} (J : JJ zJ h) (b : dPh M = true) (F : Frm M h h') : gLen h' = gLen h := by
  have e1 : gz h' 27 3 = gz h 27 3 := F.at (fun m hm => List.all_eq_true.mp b m hm) in303
  unfold gLen
  rw [e1]
  exact (F.2.1 _ J.room.2).2
theorem Phi.frm {M : List ZR} {h h' : MH} (J : JJ zJ h) (b : dPh M = true) (F : Frm M h h') : Phi h' = Phi h := by
  unfold Phi
  rw [gLen.frm J b F]
/-- the law's loop, n calls done: script of N words -/
def LI (N n : Nat) (h : MH) : Prop := JJ zJ h ∧ ((h.2 0).1 = 0 ∧ (h.2 0).2.1 = N) ∧ gz h 1319 2 ≤ (n : Int) ∧ gz h 2570 6 ≤ (n : Int) ∧ LQ h
theorem LI.c0 {N n : Nat} {h : MH} (I : LI N n h) : 0 < h.1 ∧ (h.2 0).1 = 0 ∧ (0 < 16 → (h.2 0).2.1 = N) := by
  have q : 2628 ≤ h.1 := I.1.1.1.1
  exact ⟨by omega, I.2.1.1, fun _ => I.2.1.2⟩
theorem LI.c4 {N n : Nat} {h : MH} (I : LI N n h) : 4 < h.1 ∧ (h.2 4).1 = 27 := by
  have q : 2628 ≤ h.1 := I.1.1.1.1
  exact ⟨by omega, (I.1.1.1.2 4 (by decide) (by decide)).1⟩
theorem LI.cR {N n : Nat} {h : MH} (I : LI N n h) : 2448 < h.1 ∧ (h.2 2448).1 = 36 := by
  have q : 2628 ≤ h.1 := I.1.1.1.1
  exact ⟨by omega, (I.1.1.1.2 2448 (by decide) (by decide)).1⟩
theorem LI.up {N n m : Nat} {h : MH} (I : LI N n h) (l : n ≤ m) : LI N m h := ⟨I.1, I.2.1, by have := I.2.2.1; omega, by have := I.2.2.2.1; omega, I.2.2.2.2⟩
def dLI (M : List ZR) : Bool := dLQ M && (dPh M && dJn M)
theorem Frm.c0 {M : List ZR} {h h' : MH} (F : Frm M h h') {N : Nat} (h0 : 0 < h.1) (q : (h.2 0).1 = 0 ∧ (h.2 0).2.1 = N) : (h'.2 0).1 = 0 ∧ (h'.2 0).2.1 = N := ⟨(F.2.1 0 h0).1.trans q.1, (F.2.1 0 h0).2.trans q.2⟩
theorem LI.frm {N n : Nat} {M : List ZR} {h h' : MH} (I : LI N n h) (b : dLI M = true) (F : Frm M h h') (J' : JJ zJ h') : LI N n h' ∧ Phi h' = Phi h := by
  obtain ⟨b1, b2⟩ := andB b
  obtain ⟨b2, b3⟩ := andB b2
  have b4 := fun m hm => andB (List.all_eq_true.mp b3 m hm)
  have e1 : gz h' 1319 2 = gz h 1319 2 := F.at (fun m hm => (b4 m hm).1) ⟨⟨by decide, Or.inr (by decide)⟩, Or.inr ⟨by decide, by decide⟩⟩
  have e2 : gz h' 2570 6 = gz h 2570 6 := F.at (fun m hm => (b4 m hm).2) ⟨⟨by decide, Or.inr (by decide)⟩, Or.inr ⟨by decide, by decide⟩⟩
  exact ⟨⟨J', F.c0 I.c0.1 I.2.1, by rw [e1]; exact I.2.2.1, by rw [e2]; exact I.2.2.2.1, I.2.2.2.2.frm b1 F⟩, Phi.frm I.1 b2 F⟩
/-- what call 406 does to the lines of the classes -/
def ok406 (ln : Int → Int) (rg cy : Int → Int → Int) (c w m : Int) : Prop := 0 ≤ c ∧ c ≤ 7 ∧ 1 ≤ w ∧ w ≤ 2000000 ∧ 1 ≤ m ∧ m ≤ 1000000 ∧ ln c < 4 ∧ (0 < ln c → w < rg c (ln c - 1) ∧ cy c (ln c - 1) < m)
def nx406 (ln : Int → Int) (rg cy : Int → Int → Int) (c w m : Int) (ln' : Int → Int) (rg' cy' : Int → Int → Int) : Prop :=
  (ok406 ln rg cy c w m ∧ ln' c = ln c + 1 ∧ rg' c (ln c) = w ∧ cy' c (ln c) = m ∧ (∀ j : Int, 0 ≤ j → j < 8 → j ≠ c → ln' j = ln j) ∧ ∀ j k : Int, 0 ≤ j → j < 8 → 0 ≤ k → k < ln j → rg' j k = rg j k ∧ cy' j k = cy j k) ∨
  (¬ ok406 ln rg cy c w m ∧ (∀ j : Int, 0 ≤ j → j < 8 → ln' j = ln j) ∧ ∀ j k : Int, 0 ≤ j → j < 8 → 0 ≤ k → k < ln j → rg' j k = rg j k ∧ cy' j k = cy j k)
def nxL (p0 c w m : Int) (ln : Int → Int) (rg cy : Int → Int → Int) (ln' : Int → Int) (rg' cy' : Int → Int → Int) : Prop :=
  (p0 = 406 → nx406 ln rg cy c w m ln' rg' cy') ∧ (p0 ≠ 406 → (∀ j : Int, 0 ≤ j → j < 8 → ln' j = ln j) ∧ ∀ j k : Int, 0 ≤ j → j < 8 → 0 ≤ k → k < ln j → rg' j k = rg j k ∧ cy' j k = cy j k)
theorem ok406_iff {ln ln' : Int → Int} {rg cy rg' cy' : Int → Int → Int} {c w m : Int} (e : ∀ c : Int, 0 ≤ c → c < 8 → ln c = ln' c ∧ ∀ k : Int, 0 ≤ k → k < ln c → rg c k = rg' c k ∧ cy c k = cy' c k) (o : ok406 ln rg cy c w m) : ok406 ln' rg' cy' c w m := by
  obtain ⟨o1, o2, o3, o4, o5, o6, o7, o8⟩ := o
  obtain ⟨e1, e2⟩ := e c o1 (by omega)
  refine ⟨o1, o2, o3, o4, o5, o6, by omega, fun z => ?_⟩
  obtain ⟨e3, e4⟩ := e2 (ln c - 1) (by omega) (by omega)
  have := o8 (by omega)
  rw [← e1]
  omega
/-- both sides do the same -/
theorem LQe.pair {h h1 h2 : MH} {p0 c w m : Int} (q : LQe h) (a : nxL p0 c w m (ln8 h) (rg8 h) (cy8 h) (ln8 h1) (rg8 h1) (cy8 h1)) (aR : ∀ j : Int, 0 ≤ j → j < 8 → lnR h1 j = lnR h j ∧ ∀ k : Int, rgR h1 j k = rgR h j k ∧ cyR h1 j k = cyR h j k)
    (b : nxL p0 c w m (lnR h1) (rgR h1) (cyR h1) (lnR h2) (rgR h2) (cyR h2)) (b8 : ∀ j : Int, 0 ≤ j → j < 8 → ln8 h2 j = ln8 h1 j ∧ ∀ k : Int, rg8 h2 j k = rg8 h1 j k ∧ cy8 h2 j k = cy8 h1 j k) : LQe h2 := by
  have q1 : ∀ c : Int, 0 ≤ c → c < 8 → ln8 h c = lnR h1 c ∧ ∀ k : Int, 0 ≤ k → k < ln8 h c → rg8 h c k = rgR h1 c k ∧ cy8 h c k = cyR h1 c k := fun c c0 c8 => by
    obtain ⟨x1, x2⟩ := q c c0 c8
    obtain ⟨y1, y2⟩ := aR c c0 c8
    refine ⟨x1.trans y1.symm, fun k k0 k1 => ?_⟩
    obtain ⟨x3, x4⟩ := x2 k k0 k1
    exact ⟨x3.trans (y2 k).1.symm, x4.trans (y2 k).2.symm⟩
  have q2 : ∀ c : Int, 0 ≤ c → c < 8 → lnR h1 c = ln8 h c ∧ ∀ k : Int, 0 ≤ k → k < lnR h1 c → rgR h1 c k = rg8 h c k ∧ cyR h1 c k = cy8 h c k := fun c c0 c8 => by
    obtain ⟨x1, x2⟩ := q1 c c0 c8
    exact ⟨x1.symm, fun k k0 k1 => ⟨(x2 k k0 (by omega)).1.symm, (x2 k k0 (by omega)).2.symm⟩⟩
  intro j j0 j8
  obtain ⟨z1, z2⟩ := b8 j j0 j8
  obtain ⟨y1, y2⟩ := q1 j j0 j8
  rw [z1]
  by_cases e : p0 = 406
  · rcases a.1 e with ⟨a1, a2, a3, a4, a5, a6⟩ | ⟨a1, a5, a6⟩
    · rcases b.1 e with ⟨b1, b2, b3, b4, b5, b6⟩ | ⟨b1, -, -⟩
      · by_cases ej : j = c
        · subst ej
          refine ⟨by omega, fun k k0 k1 => ?_⟩
          rw [(z2 k).1, (z2 k).2]
          by_cases ek : k = ln8 h j
          · subst ek
            rw [a3, a4, y1, b3, b4]
            exact ⟨rfl, rfl⟩
          · have k2 : k < ln8 h j := by omega
            obtain ⟨u1, u2⟩ := a6 j k j0 j8 k0 k2
            obtain ⟨u3, u4⟩ := b6 j k j0 j8 k0 (by omega)
            obtain ⟨u5, u6⟩ := y2 k k0 k2
            exact ⟨by rw [u1, u5, u3], by rw [u2, u6, u4]⟩
        · have v1 := a5 j j0 j8 ej
          have v2 := b5 j j0 j8 ej
          refine ⟨by omega, fun k k0 k1 => ?_⟩
          rw [(z2 k).1, (z2 k).2]
          have k2 : k < ln8 h j := by omega
          obtain ⟨u1, u2⟩ := a6 j k j0 j8 k0 k2
          obtain ⟨u3, u4⟩ := b6 j k j0 j8 k0 (by omega)
          obtain ⟨u5, u6⟩ := y2 k k0 k2
          exact ⟨by rw [u1, u5, u3], by rw [u2, u6, u4]⟩
      · exact absurd (ok406_iff q1 a1) b1
    · rcases b.1 e with ⟨b1, -⟩ | ⟨b1, b5, b6⟩
      · exact absurd (ok406_iff q2 b1) a1
      · have v1 := a5 j j0 j8
        have v2 := b5 j j0 j8
        refine ⟨by omega, fun k k0 k1 => ?_⟩
        rw [(z2 k).1, (z2 k).2]
        have k2 : k < ln8 h j := by omega
        obtain ⟨u1, u2⟩ := a6 j k j0 j8 k0 k2
        obtain ⟨u3, u4⟩ := b6 j k j0 j8 k0 (by omega)
        obtain ⟨u5, u6⟩ := y2 k k0 k2
        exact ⟨by rw [u1, u5, u3], by rw [u2, u6, u4]⟩
  · obtain ⟨a5, a6⟩ := a.2 e
    obtain ⟨b5, b6⟩ := b.2 e
    have v1 := a5 j j0 j8
    have v2 := b5 j j0 j8
    refine ⟨by omega, fun k k0 k1 => ?_⟩
    rw [(z2 k).1, (z2 k).2]
    have k2 : k < ln8 h j := by omega
    obtain ⟨u1, u2⟩ := a6 j k j0 j8 k0 k2
    obtain ⟨u3, u4⟩ := b6 j k j0 j8 k0 (by omega)
    obtain ⟨u5, u6⟩ := y2 k k0 k2
    exact ⟨by rw [u1, u5, u3], by rw [u2, u6, u4]⟩
theorem LQb.step {h h1 : MH} {p0 c w m : Int} (q : LQb h) (a : nxL p0 c w m (ln8 h) (rg8 h) (cy8 h) (ln8 h1) (rg8 h1) (cy8 h1)) : LQb h1 := by
  have same : (∀ j : Int, 0 ≤ j → j < 8 → ln8 h1 j = ln8 h j) → (∀ j k : Int, 0 ≤ j → j < 8 → 0 ≤ k → k < ln8 h j → rg8 h1 j k = rg8 h j k ∧ cy8 h1 j k = cy8 h j k) → LQb h1 := fun a5 a6 j j0 j8 => by
    obtain ⟨q1, q2, q3⟩ := q j j0 j8
    rw [a5 j j0 j8]
    refine ⟨q1, fun k k0 k1 => ?_, fun k k0 k1 => ?_⟩
    · rw [(a6 j k j0 j8 k0 k1).1, (a6 j k j0 j8 k0 k1).2]
      exact q2 k k0 k1
    · rw [(a6 j k j0 j8 k0 (by omega)).1, (a6 j (k + 1) j0 j8 (by omega) k1).1]
      exact q3 k k0 k1
  by_cases e : p0 = 406
  · rcases a.1 e with ⟨o, a2, a3, a4, a5, a6⟩ | ⟨o, a5, a6⟩
    · obtain ⟨o1, o2, o3, o4, o5, o6, o7, o8⟩ := o
      intro j j0 j8
      obtain ⟨q1, q2, q3⟩ := q j j0 j8
      by_cases ej : j = c
      · subst ej
        rw [a2]
        refine ⟨by omega, fun k k0 k1 => ?_, fun k k0 k1 => ?_⟩
        · by_cases ek : k = ln8 h j
          · subst ek
            rw [a3, a4]
            omega
          · rw [(a6 j k j0 j8 k0 (by omega)).1, (a6 j k j0 j8 k0 (by omega)).2]
            exact q2 k k0 (by omega)
        · by_cases ek : k + 1 = ln8 h j
          · rw [ek, a3, (a6 j k j0 j8 k0 (by omega)).1]
            have := (o8 (by omega)).1
            rw [show ln8 h j - 1 = k by omega] at this
            exact this
          · rw [(a6 j k j0 j8 k0 (by omega)).1, (a6 j (k + 1) j0 j8 (by omega) (by omega)).1]
            exact q3 k k0 (by omega)
      · rw [a5 j j0 j8 ej]
        refine ⟨q1, fun k k0 k1 => ?_, fun k k0 k1 => ?_⟩
        · rw [(a6 j k j0 j8 k0 k1).1, (a6 j k j0 j8 k0 k1).2]
          exact q2 k k0 k1
        · rw [(a6 j k j0 j8 k0 (by omega)).1, (a6 j (k + 1) j0 j8 (by omega) k1).1]
          exact q3 k k0 k1
    · exact same a5 a6
  · exact same (a.2 e).1 (a.2 e).2
theorem LQ.pair {h h1 h2 : MH} {p0 c w m : Int} (q : LQ h) (a : nxL p0 c w m (ln8 h) (rg8 h) (cy8 h) (ln8 h1) (rg8 h1) (cy8 h1)) (aR : ∀ j : Int, 0 ≤ j → j < 8 → lnR h1 j = lnR h j ∧ ∀ k : Int, rgR h1 j k = rgR h j k ∧ cyR h1 j k = cyR h j k)
    (b : nxL p0 c w m (lnR h1) (rgR h1) (cyR h1) (lnR h2) (rgR h2) (cyR h2)) (b8 : ∀ j : Int, 0 ≤ j → j < 8 → ln8 h2 j = ln8 h1 j ∧ ∀ k : Int, rg8 h2 j k = rg8 h1 j k ∧ cy8 h2 j k = cy8 h1 j k) : LQ h2 := ⟨q.1.pair a aR b b8, (q.2.step a).same b8⟩
