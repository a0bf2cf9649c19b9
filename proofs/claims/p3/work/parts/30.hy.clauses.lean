/-! what a carried clause tells, and how one is told: clauses of one place, of an array -/
theorem zG_is {k : Nat} {b : ZB} (h : (match zG.1 k with
  | some x => zBeq x b
  | none => false) = true) : zG.1 k = some b := by
  cases e : zG.1 k with
  | none => rw [e] at h; cases h
  | some x => rw [e] at h; rw [zBeq_of (show zBeq x b = true from h)]
theorem clF {k : Nat} {m : ZR} {r j : Nat} {cs : List ZT} {h : MH} (q : zGl zG k h) (e : zG.1 k = some ([60001], [(m, ((r : Int), []), ((j : Int), []), (0, [(60001, 1)]))], [], cs)) (z : inZ m (r : Int) (j : Int)) : ∀ c ∈ cs, 0 ≤ zv (fun _ => gz h (r : Int) (j : Int)) c := by
  unfold zGl at q
  rw [e] at q
  refine q (fun _ => gz h (r : Int) (j : Int)) (fun _ => gz h (r : Int) (j : Int)) (fun _ _ => rfl) (List.forall_mem_cons.mpr ⟨⟨?_, ?_⟩, fun _ y => absurd y List.not_mem_nil⟩) (fun _ y => absurd y List.not_mem_nil)
  · show inZ m ((r : Int) + 0) ((j : Int) + 0)
    rw [Int.add_zero, Int.add_zero]
    exact z
  · show gz h ((r : Int) + 0) ((j : Int) + 0) = 0 + (1 * gz h (r : Int) (j : Int) + 0)
    rw [Int.add_zero, Int.add_zero]
    omega
theorem clA {k : Nat} {m : ZR} {r : Nat} {n : Int} {cs : List ZT} {h : MH} (q : zGl zG k h) (e : zG.1 k = some ([60001, 60002], [(m, ((r : Int), []), (0, [(60001, 1)]), (0, [(60002, 1)]))], [(0, [(60001, 1)]), (n, [(60001, -1)])], cs)) {i : Int} (i0 : 0 ≤ i) (i1 : i ≤ n) (z : inZ m (r : Int) i) : ∀ c ∈ cs, 0 ≤ zv (fun v => bif Nat.beq v 60002 then gz h (r : Int) i else i) c := by
  unfold zGl at q
  rw [e] at q
  refine q (fun v => bif Nat.beq v 60002 then gz h (r : Int) i else i) (fun v => bif Nat.beq v 60002 then gz h (r : Int) i else i) (fun _ _ => rfl) (List.forall_mem_cons.mpr ⟨⟨?_, ?_⟩, fun _ y => absurd y List.not_mem_nil⟩) (List.forall_mem_cons.mpr ⟨?_, List.forall_mem_cons.mpr ⟨?_, fun _ y => absurd y List.not_mem_nil⟩⟩)
  · show inZ m ((r : Int) + 0) (0 + (1 * i + 0))
    rw [Int.add_zero, show (0 : Int) + (1 * i + 0) = i by omega]
    exact z
  · show gz h ((r : Int) + 0) (0 + (1 * i + 0)) = 0 + (1 * gz h (r : Int) i + 0)
    rw [Int.add_zero, show (0 : Int) + (1 * i + 0) = i by omega]
    omega
  · show (0 : Int) ≤ 0 + (1 * i + 0)
    omega
  · show (0 : Int) ≤ n + (-1 * i + 0)
    omega
theorem tlF {k : Nat} {m : ZR} {r j : Nat} {cs : List ZT} {h : MH} (e : zG.1 k = some ([60001], [(m, ((r : Int), []), ((j : Int), []), (0, [(60001, 1)]))], [], cs)) (f : ∀ β : Nat → Int, β 60001 = gz h (r : Int) (j : Int) → ∀ c ∈ cs, 0 ≤ zv β c) : zGl zG k h := by
  unfold zGl
  rw [e]
  intro ρ β _ he _ c hc
  have h1 := (he _ List.mem_cons_self).2
  have h1 : gz h ((r : Int) + 0) ((j : Int) + 0) = 0 + (1 * β 60001 + 0) := h1
  rw [Int.add_zero, Int.add_zero] at h1
  exact f β (by omega) c hc
theorem tlA {k : Nat} {m : ZR} {r : Nat} {n : Int} {cs : List ZT} {h : MH} (e : zG.1 k = some ([60001, 60002], [(m, ((r : Int), []), (0, [(60001, 1)]), (0, [(60002, 1)]))], [(0, [(60001, 1)]), (n, [(60001, -1)])], cs)) (f : ∀ β : Nat → Int, 0 ≤ β 60001 → β 60001 ≤ n → β 60002 = gz h (r : Int) (β 60001) → ∀ c ∈ cs, 0 ≤ zv β c) : zGl zG k h := by
  unfold zGl
  rw [e]
  intro ρ β _ he hg c hc
  have h1 := (he _ List.mem_cons_self).2
  have g1 := hg _ List.mem_cons_self
  have g2 := hg _ (List.mem_cons_of_mem _ List.mem_cons_self)
  have h1 : gz h ((r : Int) + 0) (0 + (1 * β 60001 + 0)) = 0 + (1 * β 60002 + 0) := h1
  have g1 : (0 : Int) ≤ 0 + (1 * β 60001 + 0) := g1
  have g2 : (0 : Int) ≤ n + (-1 * β 60001 + 0) := g2
  rw [Int.add_zero, show (0 : Int) + (1 * β 60001 + 0) = β 60001 by omega] at h1
  exact f β (by omega) (by omega) (by omega) c hc
