/-! X9: parts of a told ratio -/
theorem fb9 {h : MH} (f : FBX9 h) (k : Nat) (hk : k < 14) {o : Nat} (e : o = 562 + 2 * k) (k5 : k ≠ 5) : SB o 64 h ∧ (0 ≤ ga h o 1 ∧ ga h o 1 ≤ ((64 : Nat) : Int)) ∧ Dg1 (ga h (o + 1)) 1099511627776 ∧ (-1 ≤ ga h o 2 ∧ ga h o 2 ≤ 1) ∧ (1 ≤ ga h o 1 → 1 ≤ ga h (o + 1) (ga h o 1 - 1)) := by
  subst e
  obtain ⟨a, b, c, d, t⟩ := f k (by omega)
  have r : rmX9 k = 64 := by
    unfold rmX9
    rw [if_pos (by omega)]
  rw [r] at a b
  exact ⟨a, b, c, d, t (by omega)⟩
theorem FBX9.x {h h' : MH} (f : FBX9 h) (o : Only [566, 567] h h') (s : SB 566 64 h') (b : (0 ≤ ga h' 566 1 ∧ ga h' 566 1 ≤ ((64 : Nat) : Int)) ∧ Dg1 (ga h' 567) 1099511627776 ∧ (-1 ≤ ga h' 566 2 ∧ ga h' 566 2 ≤ 1) ∧ (1 ≤ ga h' 566 1 → 1 ≤ ga h' 567 (ga h' 566 1 - 1))) : FBX9 h' := fun k hk => by
  by_cases w : k = 2
  · subst w
    exact ⟨s, b.1, b.2.1, b.2.2.1, fun _ => b.2.2.2⟩
  · obtain ⟨s9, l9, d9, g9, t9⟩ := f k hk
    have n1 : 562 + 2 * k ∉ [566, 567] := by
      simp only [List.mem_cons, List.not_mem_nil, or_false]
      omega
    have n2 : 562 + 2 * k + 1 ∉ [566, 567] := by
      simp only [List.mem_cons, List.not_mem_nil, or_false]
      omega
    refine ⟨s9.only o n1, ?_, ?_, ?_, ?_⟩
    · rw [onlyF o n1]; exact l9
    · rw [onlyF o n2]; exact d9
    · rw [onlyF o n1]; exact g9
    · rw [onlyF o n1, onlyF o n2]; exact t9
theorem st566 {h h' : MH} (st : StrZ zT h) (o : Only [566, 567] h h') (s : SB 566 64 h') : StrZ zT h' := by
  have t := tbX9 2 (by decide)
  have s0 := sbX9 st 2 (by decide)
  refine strz_only st o (fun c hc j n => ?_) (fun c hc => ?_)
  · simp only [List.mem_cons, List.not_mem_nil, or_false] at hc
    rcases hc with rfl | rfl
    · rw [zref17 t.1 n, s.2.2, s0.2.2]
    · exact absurd (zref0 t.2.1 j) n
  · simp only [List.mem_cons, List.not_mem_nil, or_false] at hc
    rcases hc with rfl | rfl
    · exact zrow0 (Or.inr t.1)
    · exact zrow0 (Or.inl t.2.1)
def WQ (h x : MH) : Prop := StrZ zT x ∧ Only [566, 567] h x ∧ FBX9 x
theorem WQ.s {h x : MH} (g : WQ h x) (k : Nat) (hk : k < 3) {o : Nat} (e : o = 562 + 2 * k) : SB o 64 x := (fb9 g.2.2 k (by omega) e (by omega)).1
def PV9 (N : Int) : Int := N % 1000000000 + 1000000000 * (N / 1000000000 % 1000000000)
theorem PV9_b {N : Int} : 0 ≤ PV9 N ∧ PV9 N ≤ 999999999999999999 := by
  unfold PV9
  omega
theorem WQ.copy {h x : MH} (g : WQ h x) (k : Nat) (hk : k < 2) {o : Nat} (e : o = 562 + 2 * k) : MCal KX1_copy yX1_copy 0 0 [(2, ((566 : Nat) : Int)), (2, ((o : Nat) : Int))] x (mRV fun h' => WQ h h' ∧ nv1 (ga h' 567) (ga h' 566 1).toNat = nv1 (ga h (o + 1)) (ga h o 1).toNat) := by
  obtain ⟨s1, l1, d1, g1, t1⟩ := fb9 g.2.2 k (by omega) e (by omega)
  obtain ⟨s2, l2, d2, g2, t2⟩ := fb9 g.2.2 2 (by decide) (o := 566) rfl (by decide)
  refine MCal.mono (mRV_mono fun h' p => ?_) (h_X1_copyR (o := 566) (W := 64) (a := o) (A := 64) (by decide) (by decide) (by omega) (by decide) (by omega) l1 d1 l1.2 d2 fun q hq => ?_)
  · obtain ⟨p1, p2, p3, p4, p5, p6⟩ := p
    have n1 : o ∉ [566, 567] := by simp only [List.mem_cons, List.not_mem_nil, or_false]; omega
    have n2 : o + 1 ∉ [566, 567] := by simp only [List.mem_cons, List.not_mem_nil, or_false]; omega
    refine ⟨⟨st566 g.1 p1 (p2 _ List.mem_cons_self), g.2.1.trans p1, g.2.2.x p1 (p2 _ List.mem_cons_self) ⟨by rw [p3]; exact l1, p5, by rw [p4]; exact g1, fun w => ?_⟩⟩, ?_⟩
    · rw [p3] at w ⊢
      have := p6 (ga x o 1 - 1) (by omega) (by omega)
      rw [show (566 + 1 : Nat) = 567 from rfl] at this
      rw [this]
      exact t1 w
    · rw [p3, nv1_cg (g := ga x (o + 1)) (fun j a b => p6 j a (by omega)), onlyF g.2.1 n1, onlyF g.2.1 n2]
  · simp only [List.mem_cons, List.not_mem_nil, or_false] at hq
    rcases hq with rfl | rfl
    · exact s2
    · exact s1
theorem WQ.ds {h x : MH} (g : WQ h x) : MCal KX1_divideSmall yX1_divideSmall 0 0 [(2, ((566 : Nat) : Int)), (0, 1000000000)] x (mRI fun v h' => WQ h h' ∧ (0 ≤ v ∧ v ≤ 999999999) ∧ v = nv1 (ga x 567) (ga x 566 1).toNat % 1000000000 ∧ nv1 (ga h' 567) (ga h' 566 1).toNat = nv1 (ga x 567) (ga x 566 1).toNat / 1000000000) := by
  obtain ⟨s2, l2, d2, g2, t2⟩ := fb9 g.2.2 2 (by decide) (o := 566) rfl (by decide)
  refine MCal.mono (fun r h' p => ?_) (h_X1_divideSmall (o := 566) (W := 64) (by9 := 1000000000) (by decide) (by decide) ⟨by decide, by decide⟩ l2 d2 fun q hq => ?_)
  · obtain ⟨r1, r2, p1, p2, p3, p4, p5, p6, p7, p8⟩ := p
    refine ⟨r1, r2, ⟨st566 g.1 p1 (p2 _ List.mem_cons_self), g.2.1.trans p1, g.2.2.x p1 (p2 _ List.mem_cons_self) ⟨by omega, p3, ?_, p7⟩⟩, ?_, p5, p6⟩
    · rw [p8]
      split
      · decide
      · exact g2
    · rw [p5]
      omega
  · rw [List.mem_singleton] at hq
    subst hq
    exact s2
