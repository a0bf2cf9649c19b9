/-! the shape of the heap behind the constructors -/
theorem blt_hi {j k : Nat} (h : 64 ≤ j) (hk : k ≤ 64) : Nat.blt j k = false := by
  cases z : Nat.blt j k with
  | false => rfl
  | true => have := bltN z; omega
theorem zRef4_hi {j : Nat} (h : 64 ≤ j) : zRef4 j = 0 := by
  simp (disch := decide) only [zRef4, blt_hi h, cond_false]
theorem zRef5_hi {j : Nat} (h : 64 ≤ j) : zRef5 j = 0 := by
  simp (disch := decide) only [zRef5, blt_hi h, cond_false]
theorem zRef27_hi {j : Nat} (h : 64 ≤ j) : zRef27 j = 0 := by
  simp (disch := decide) only [zRef27, blt_hi h, cond_false]
theorem zRef34_hi {j : Nat} (h : 64 ≤ j) : zRef34 j = 0 := by
  simp (disch := decide) only [zRef34, blt_hi h, cond_false]
theorem zRef161_hi {j : Nat} (h : 64 ≤ j) : zRef161 j = 0 := by
  simp (disch := decide) only [zRef161, blt_hi h, cond_false]
theorem zRef196_hi {j : Nat} (h : 64 ≤ j) : zRef196 j = 0 := by
  simp (disch := decide) only [zRef196, blt_hi h, cond_false]
theorem zRef503_hi {j : Nat} (h : 64 ≤ j) : zRef503 j = 0 := by
  simp (disch := decide) only [zRef503, blt_hi h, cond_false]
theorem zRef561_hi {j : Nat} (h : 64 ≤ j) : zRef561 j = 0 := by
  simp (disch := decide) only [zRef561, blt_hi h, cond_false]
theorem zRef618_hi {j : Nat} (h : 64 ≤ j) : zRef618 j = 0 := by
  simp (disch := decide) only [zRef618, blt_hi h, cond_false]
theorem zRef818_hi {j : Nat} (h : 64 ≤ j) : zRef818 j = 0 := by
  simp (disch := decide) only [zRef818, blt_hi h, cond_false]
theorem zRef833_hi {j : Nat} (h : 64 ≤ j) : zRef833 j = 0 := by
  simp (disch := decide) only [zRef833, blt_hi h, cond_false]
theorem zRef1319_hi {j : Nat} (h : 64 ≤ j) : zRef1319 j = 0 := by
  simp (disch := decide) only [zRef1319, blt_hi h, cond_false]
theorem zRef1982_hi {j : Nat} (h : 64 ≤ j) : zRef1982 j = 0 := by
  simp (disch := decide) only [zRef1982, blt_hi h, cond_false]
theorem zRef2448_hi {j : Nat} (h : 64 ≤ j) : zRef2448 j = 0 := by
  simp (disch := decide) only [zRef2448, blt_hi h, cond_false]
theorem zRef2449_hi {j : Nat} (h : 64 ≤ j) : zRef2449 j = 0 := by
  simp (disch := decide) only [zRef2449, blt_hi h, cond_false]
theorem zRef2468_hi {j : Nat} (h : 64 ≤ j) : zRef2468 j = 0 := by
  simp (disch := decide) only [zRef2468, blt_hi h, cond_false]
theorem zRef2495_hi {j : Nat} (h : 64 ≤ j) : zRef2495 j = 0 := by
  simp (disch := decide) only [zRef2495, blt_hi h, cond_false]
theorem zRef2514_hi {j : Nat} (h : 64 ≤ j) : zRef2514 j = 0 := by
  simp (disch := decide) only [zRef2514, blt_hi h, cond_false]
theorem zRef2534_hi {j : Nat} (h : 64 ≤ j) : zRef2534 j = 0 := by
  simp (disch := decide) only [zRef2534, blt_hi h, cond_false]
theorem zRef2551_hi {j : Nat} (h : 64 ≤ j) : zRef2551 j = 0 := by
  simp (disch := decide) only [zRef2551, blt_hi h, cond_false]
theorem zRef2570_hi {j : Nat} (h : 64 ≤ j) : zRef2570 j = 0 := by
  simp (disch := decide) only [zRef2570, blt_hi h, cond_false]
theorem zRef2595_hi {j : Nat} (h : 64 ≤ j) : zRef2595 j = 0 := by
  simp (disch := decide) only [zRef2595, blt_hi h, cond_false]
theorem zRefT_hi {c j : Nat} (h : 64 ≤ j) : zRefT c j = 0 := by
  unfold zRefT
  simp only [zRef4_hi h, zRef5_hi h, zRef27_hi h, zRef34_hi h, zRef161_hi h, zRef196_hi h, zRef503_hi h, zRef561_hi h, zRef618_hi h, zRef818_hi h, zRef833_hi h, zRef1319_hi h, zRef1982_hi h, zRef2448_hi h, zRef2449_hi h, zRef2468_hi h, zRef2495_hi h, zRef2514_hi h, zRef2534_hi h, zRef2551_hi h, zRef2570_hi h, zRef2595_hi h, Bool.cond_self]
theorem zRef_hi {c j : Nat} (h : 64 ≤ j) : zRef c j = 0 := by
  unfold zRef
  have e : Nat.beq j 0 = false := by
    cases z : Nat.beq j 0 with
    | false => rfl
    | true => have := beqN z; omega
  rw [zRefT_hi h, e, cond_false, Bool.cond_self, Bool.cond_self]
/-- references of an object are as the table says -/
def rfs (p : CC) (c : Nat) : Nat → Bool
  | 0 => true
  | j + 1 => (Nat.beq (zRef c j) 0 || (match clk p.2.2.2 j with
    | some v => ieq v (zRef c j : Int)
    | none => false)) && rfs p c j
theorem rfs_of {p : CC} {c : Nat} : ∀ {n : Nat}, rfs p c n = true → ∀ j, j < n → zRef c j ≠ 0 → clk p.2.2.2 j = some (zRef c j : Int)
  | 0, _, _, h, _ => absurd h (Nat.not_lt_zero _)
  | n + 1, e, j, h, nz => by
    obtain ⟨a, b⟩ := andB e
    by_cases q : j = n
    · subst q
      rw [Bool.or_eq_true] at a
      rcases a with a | a
      · exact absurd (beqN a) nz
      · split at a
        · next v w => rw [w, ieq_of a]
        · cases a
    · exact rfs_of b j (by omega) nz
def rws (p : CC) (base st : Nat) : Nat → Bool
  | 0 => true
  | j + 1 => (match cRd p j with
    | some v => ieq v ((base : Int) + (st : Int) * (j : Int))
    | none => false) && rws p base st j
theorem rws_of {p : CC} {base st : Nat} : ∀ {n : Nat}, rws p base st n = true → ∀ j, j < n → cvl p j = (base : Int) + (st : Int) * (j : Int)
  | 0, _, _, h => absurd h (Nat.not_lt_zero _)
  | n + 1, e, j, h => by
    obtain ⟨a, b⟩ := andB e
    by_cases q : j = n
    · subst q
      split at a
      · next v w => exact (cRd_of w).trans (ieq_of a)
      · cases a
    · exact rws_of b j (by omega)
def shp1 (p : CC) (c : Nat) : Bool := Nat.beq p.1 (zKind c) && ((Nat.ble 16 p.1 || Nat.beq p.2.1 (zLen c)) && ((Nat.blt p.1 16 || rfs p c 64) && rws p (zRow c).1 (zst zT c) (zRow c).2))
def shp : List CC → Nat → Bool
  | [], _ => true
  | p :: l, c => shp1 p c && shp l (c - 1)
theorem shp_of : ∀ {l : List CC} {c k : Nat} {p : CC}, shp l c = true → zget l k = some p → shp1 p (c - k) = true
  | [], _, _, _, _, h => by cases h
  | x :: l, c, k, p, e, h => by
    obtain ⟨a, b⟩ := andB e
    unfold zget at h
    cases z : Nat.beq k 0 with
    | true =>
      rw [z] at h
      cases h
      rw [beqN z]
      exact a
    | false =>
      rw [z] at h
      have z := beqN_no z
      have := shp_of b h
      rw [show c - k = c - 1 - (k - 1) by omega]
      exact this
set_option maxRecDepth 1000000 in
set_option maxHeartbeats 100000000 in
theorem shp_ok : (shp hLit.2.2 2627 && Nat.beq hLit.2.2.length 2624) = true := by decide +kernel
theorem hL_at {c : Nat} (h4 : 4 ≤ c) (hc : c < 2628) : ∃ p, cAt hLit c = some p ∧ shp1 p c = true := by
  obtain ⟨s1, s2⟩ := andB shp_ok
  have s2 := beqN s2
  have z1 : Nat.blt c 4 = false := by
    cases z : Nat.blt c 4 with
    | false => rfl
    | true => have := bltN z; omega
  have e : cAt hLit c = zget hLit.2.2 (2627 - c) := by
    unfold cAt
    rw [z1, cond_false]
    show (bif Nat.blt c 2628 then zget hLit.2.2 (2628 - 1 - c) else none) = _
    rw [bltT hc]
    rfl
  have hl : 2627 - c < hLit.2.2.length := by rw [s2]; omega
  have g : zget hLit.2.2 (2627 - c) = some hLit.2.2[2627 - c] := by rw [zget_el, List.getElem?_eq_getElem hl]
  refine ⟨_, e.trans g, ?_⟩
  have := shp_of s1 g
  rw [show 2627 - (2627 - c) = c by omega] at this
  exact this
theorem strz_start {hb : MH} (hx : ∀ c, 1 ≤ c → c < 4 → (hb.2 c).1 = 0 ∧ (hb.2 c).2.1 = 16) : StrZ zT (cMH hb hLit) := by
  refine ⟨⟨Nat.le_refl _, fun c c1 c2 => ?_⟩, fun c j nz => ?_, fun c j hj => ?_⟩
  · by_cases h4 : 4 ≤ c
    · obtain ⟨p, e, s⟩ := hL_at h4 c2
      obtain ⟨s1, s2⟩ := andB s
      obtain ⟨s2, s3⟩ := andB s2
      rw [cMH_at e]
      refine ⟨beqN s1, fun q => ?_⟩
      rw [Bool.or_eq_true] at s2
      rcases s2 with s2 | s2
      · have := bleN s2
        have q : p.1 < 16 := q
        omega
      · exact beqN s2
    · have e : cAt hLit c = none := by
        unfold cAt
        rw [bltT (show c < 4 by omega)]
        rfl
      have e2 : (cMH hb hLit).2 c = hb.2 c := by
        show (match cAt hLit c with
          | some c => cMC c
          | none => hb.2 c) = _
        rw [e]
      rw [e2]
      obtain ⟨x1, x2⟩ := hx c c1 (by omega)
      have k : c = 1 ∨ c = 2 ∨ c = 3 := by omega
      rcases k with k | k | k <;> subst k <;> exact ⟨x1, fun _ => x2⟩
  · obtain ⟨t1, t2, t3, t4⟩ := zT_ok.1 c j nz
    replace nz : zRef c j ≠ 0 := nz
    have h4 : 4 ≤ c := Nat.le_of_not_lt fun q => by
      have k : c = 1 ∨ c = 2 ∨ c = 3 := by omega
      rcases k with k | k | k <;> subst k <;> exact absurd t3 (by decide)
    have hj : j < 64 := Nat.lt_of_not_le fun q => nz (zRef_hi q)
    obtain ⟨p, e, s⟩ := hL_at h4 t1
    obtain ⟨s1, s2⟩ := andB s
    obtain ⟨s2, s3⟩ := andB s2
    obtain ⟨s3, s4⟩ := andB s3
    rw [Bool.or_eq_true] at s3
    rcases s3 with s3 | s3
    · have := bltN s3
      have s1 := beqN s1
      have t3 : 16 ≤ zKind c := t3
      omega
    · rw [cMH_at e]
      show cvl p j = (zRef c j : Int)
      unfold cvl
      rw [rfs_of s3 j hj nz]
  · obtain ⟨t1, t2, t3⟩ := zT_ok.2 c j hj
    replace hj : j < (zRow c).2 := hj
    have h4 : 4 ≤ c := Nat.le_of_not_lt fun q => by
      have k : c = 1 ∨ c = 2 ∨ c = 3 := by omega
      rcases k with k | k | k <;> subst k <;> exact absurd t3.1 (by decide)
    obtain ⟨p, e, s⟩ := hL_at h4 t1
    obtain ⟨s1, s2⟩ := andB s
    obtain ⟨s2, s3⟩ := andB s2
    obtain ⟨s3, s4⟩ := andB s3
    rw [cMH_at e]
    exact rws_of s4 j hj
