/-! the heap of the table as the rules by hand want it -/
set_option maxRecDepth 100000 in
def strB (t rf : List (Nat × Nat × Nat)) : Bool := t.all (fun q => Nat.blt 0 q.1 && (Nat.blt q.1 2628 && (Nat.beq (zKind q.1) q.2.1 && (Nat.ble 16 q.2.1 || Nat.beq (zLen q.1) q.2.2)))) && rf.all (fun q => Nat.blt 0 q.2.2 && Nat.beq (zRef q.1 q.2.1) q.2.2)
set_option maxRecDepth 100000 in
theorem str_of {t rf : List (Nat × Nat × Nat)} {h : MH} (b : strB t rf = true) (s : StrZ zT h) : Str t rf h := by
  obtain ⟨b1, b2⟩ := andB b
  refine ⟨fun q hq => ?_, fun q hq => ?_⟩
  · have z := List.all_eq_true.mp b1 q hq
    obtain ⟨z1, z⟩ := andB z
    obtain ⟨z2, z⟩ := andB z
    obtain ⟨z3, z4⟩ := andB z
    have z1 := bltN z1
    have z2 := bltN z2
    have z3 := beqN z3
    have n := s.1.1
    have n : 2628 ≤ h.1 := n
    obtain ⟨k1, k2⟩ := s.1.2 q.1 z1 z2
    have k1 : (h.2 q.1).1 = zKind q.1 := k1
    refine ⟨by omega, by rw [k1, z3], fun l => ?_⟩
    rw [Bool.or_eq_true] at z4
    rcases z4 with z4 | z4
    · have := bleN z4
      omega
    · rw [k2 (by rw [k1, z3]; exact l)]
      exact beqN z4
  · have z := List.all_eq_true.mp b2 q hq
    obtain ⟨z1, z2⟩ := andB z
    have z1 := bltN z1
    have z2 := beqN z2
    have := s.2.1 q.1 q.2.1 (by show zRef q.1 q.2.1 ≠ 0; omega)
    rw [this]
    show ((zRef q.1 q.2.1 : Nat) : Int) = _
    rw [z2]
theorem ga_gz {h : MH} {c : Nat} {i : Int} (i0 : 0 ≤ i) (iK : i < 1099511627776) : gz h (c : Int) i = ga h c i := (gz_at (Int.natCast_nonneg c) i0 iK).trans (by rw [Int.toNat_natCast]; rfl)
/-! what a carried clause tells, and how one is told: clauses of one place, of an array -/
theorem zG_is {k : Nat} {b : ZB} (h : (match zG.1 k with
  | some x => zBeq x b
  | none => false) = true) : zG.1 k = some b := by
  cases e : zG.1 k with
  | none => rw [e] at h; cases h
  | some x => rw [e] at h; rw [zBeq_of (show zBeq x b = true from h)]
theorem clF {k : Nat} {m : ZR} {r j : Nat} {cs : List ZT} {h : MH} (q : zGl zG k h) (e : zG.1 k = some ([60001], [(m, ((r : Int), []), ((j : Int), []), (0, [(60001, 1)]))], [], cs)) (z : inZ m (r : Int) (j : Int)) : ∀ c ∈ cs, 0 ≤ zv (fun _ => gz h (r : Int) (j : Int)) c := by
  unfold zGl at q
  rw [e] at q
  refine q (fun _ => gz h (r : Int) (j : Int)) (fun _ => gz h (r : Int) (j : Int)) (fun _ _ => rfl) (List.forall_mem_cons.mpr ⟨⟨?_, ?_⟩, fun _ y => absurd y List.not_mem_nil⟩) (fun _ y => absurd y List.not_mem_nil)
  · show inZ m ((r : Int) + 0) ((j : Int) + 0)
    rw [Int.add_zero, Int.add_zero]
    exact z
  · show gz h ((r : Int) + 0) ((j : Int) + 0) = 0 + (1 * gz h (r : Int) (j : Int) + 0)
    rw [Int.add_zero, Int.add_zero]
    omega
theorem clA {k : Nat} {m : ZR} {r : Nat} {n : Int} {cs : List ZT} {h : MH} (q : zGl zG k h) (e : zG.1 k = some ([60001, 60002], [(m, ((r : Int), []), (0, [(60001, 1)]), (0, [(60002, 1)]))], [(0, [(60001, 1)]), (n, [(60001, -1)])], cs)) {i : Int} (i0 : 0 ≤ i) (i1 : i ≤ n) (z : inZ m (r : Int) i) : ∀ c ∈ cs, 0 ≤ zv (fun v => bif Nat.beq v 60002 then gz h (r : Int) i else i) c := by
  unfold zGl at q
  rw [e] at q
  refine q (fun v => bif Nat.beq v 60002 then gz h (r : Int) i else i) (fun v => bif Nat.beq v 60002 then gz h (r : Int) i else i) (fun _ _ => rfl) (List.forall_mem_cons.mpr ⟨⟨?_, ?_⟩, fun _ y => absurd y List.not_mem_nil⟩) (List.forall_mem_cons.mpr ⟨?_, List.forall_mem_cons.mpr ⟨?_, fun _ y => absurd y List.not_mem_nil⟩⟩)
  · show inZ m ((r : Int) + 0) (0 + (1 * i + 0))
    rw [Int.add_zero, show (0 : Int) + (1 * i + 0) = i by omega]
    exact z
  · show gz h ((r : Int) + 0) (0 + (1 * i + 0)) = 0 + (1 * gz h (r : Int) i + 0)
    rw [Int.add_zero, show (0 : Int) + (1 * i + 0) = i by omega]
    omega
  · show (0 : Int) ≤ 0 + (1 * i + 0)
    omega
  · show (0 : Int) ≤ n + (-1 * i + 0)
    omega
theorem tlF {k : Nat} {m : ZR} {r j : Nat} {cs : List ZT} {h : MH} (e : zG.1 k = some ([60001], [(m, ((r : Int), []), ((j : Int), []), (0, [(60001, 1)]))], [], cs)) (f : ∀ β : Nat → Int, β 60001 = gz h (r : Int) (j : Int) → ∀ c ∈ cs, 0 ≤ zv β c) : zGl zG k h := by
  unfold zGl
  rw [e]
  intro ρ β _ he _ c hc
  have h1 := (he _ List.mem_cons_self).2
  have h1 : gz h ((r : Int) + 0) ((j : Int) + 0) = 0 + (1 * β 60001 + 0) := h1
  rw [Int.add_zero, Int.add_zero] at h1
  exact f β (by omega) c hc
theorem tlA {k : Nat} {m : ZR} {r : Nat} {n : Int} {cs : List ZT} {h : MH} (e : zG.1 k = some ([60001, 60002], [(m, ((r : Int), []), (0, [(60001, 1)]), (0, [(60002, 1)]))], [(0, [(60001, 1)]), (n, [(60001, -1)])], cs)) (f : ∀ β : Nat → Int, 0 ≤ β 60001 → β 60001 ≤ n → β 60002 = gz h (r : Int) (β 60001) → ∀ c ∈ cs, 0 ≤ zv β c) : zGl zG k h := by
  unfold zGl
  rw [e]
  intro ρ β _ he hg c hc
  have h1 := (he _ List.mem_cons_self).2
  have g1 := hg _ List.mem_cons_self
  have g2 := hg _ (List.mem_cons_of_mem _ List.mem_cons_self)
  have h1 : gz h ((r : Int) + 0) (0 + (1 * β 60001 + 0)) = 0 + (1 * β 60002 + 0) := h1
  have g1 : (0 : Int) ≤ 0 + (1 * β 60001 + 0) := g1
  have g2 : (0 : Int) ≤ n + (-1 * β 60001 + 0) := g2
  rw [Int.add_zero, show (0 : Int) + (1 * β 60001 + 0) = β 60001 by omega] at h1
  exact f β (by omega) (by omega) (by omega) c hc
theorem MCal.mono {K : mK} {y : MethodName} {mc ms : Nat} {As : List MV} {h : MH} {Q' Q : MO → MH → Prop} (hQ : ∀ o h', Q' o h' → Q o h') (k : MCal K y mc ms As h Q') : MCal K y mc ms As h Q := by
  intro D x s0 l oA
  have k1 := k D x s0 l oA
  have hq : ∀ (av : Array Value) (st : State) (oc : Outcome) (t : State), mQc D x s0 Q' av st oc t → mQc D x s0 Q av st oc t := fun av st oc t ⟨r, h', z, zz⟩ => ⟨r, h', hQ r h' z, zz⟩
  by_cases h1 : K.1 = 1
  · rw [if_pos h1] at k1 ⊢
    exact MetFree.mono k1 (fun _ _ z => z) (fun _ _ _ _ _ z => z) (fun a s o s' _ ⟨d, e1, e2, e3⟩ => ⟨d, e1, hq _ _ _ _ e2, e3⟩)
  · rw [if_neg h1] at k1 ⊢
    exact MetFree.mono k1 (fun _ _ z => z) (fun _ _ _ _ _ z => z) (fun a s o s' _ ⟨e2, e3⟩ => ⟨hq _ _ _ _ e2, e3⟩)
section HY
variable {K : mK} {P : MP} {o i pc a : Nat} {zz : Int} {bb cc mc ms mc' ms' : Nat} {L : List (Nat × MV)} {S : List MV} {h : MH} {Q : MO → MH → Prop}
theorem hd_sw (ok : okP K o P = true) {x lo : Int} {dflt t : Nat} {ts : List Nat} (hi : P.1[i]? = some (pc, 65, zz, a, bb, cc)) (hp : P.2[a]? = some (lo, dflt :: ts)) (ht : ts[(x - lo).toNat]? = some t) (hl : lo ≤ x) (k : MW K Q mc ms (pcA P t) L S h) : MW K Q mc ms (pcA P i) L ((0, x) :: S) h := so1 ok hi (by
  show sSw P.2[a]? ((0, x) :: S) _
  rw [hp]
  refine ⟨rfl, ?_⟩
  show sSw2 ts[(x - lo).toNat]? lo dflt x _
  rw [ht]
  show (if lo ≤ x then _ else _)
  rw [if_pos hl]
  exact k)
end HY
