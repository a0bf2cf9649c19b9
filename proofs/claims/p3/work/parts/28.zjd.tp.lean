/-! X0: a text of beams -/
section HR4
variable {K : mK} {Q : MO → MH → Prop} {mc ms i pc : Nat} {L : List (Nat × MV)} {h : MH} {o : Nat} {P : MP} {zz : Int} {bb cc : Nat}
theorem hd_cret (ok : okP K o P = true) {x : Int} (hi : P.1[i]? = some (pc, 61, zz, 5, bb, cc)) (hx : 0 ≤ x ∧ x ≤ 65535) (k : Q (1, (0, x)) h) : MW K Q mc ms (pcA P i) L [(0, x)] h := so1 ok hi ⟨rfl, fun e => absurd (show (5 : Nat) = 4 from e) (by decide), fun _ => hx, k⟩
end HR4
def sg0 (h : MH) (i : Int) : Int := if 0 ≤ i ∧ i < ga h 161 8 then ga h 179 i else 0
def nA0 (h : MH) (i : Int) : Int := if sg0 h i - 48 < 1 ∨ 9 < sg0 h i - 48 then 0 else if (if 0 ≤ sg0 h (i + 1) - 48 ∧ sg0 h (i + 1) - 48 ≤ 9 then 10 * (sg0 h i - 48) + (sg0 h (i + 1) - 48) else sg0 h i - 48) ≤ 12 then (if 0 ≤ sg0 h (i + 1) - 48 ∧ sg0 h (i + 1) - 48 ≤ 9 then 10 * (sg0 h i - 48) + (sg0 h (i + 1) - 48) else sg0 h i - 48) else 0
def hb0 (h : MH) (i : Int) : Int := if sg0 h i = 104 then 1 else 0
def ln0 (h : MH) (i : Int) : Int := if 9 < nA0 h i then 2 else 1
def p10 (h : MH) (i : Int) : Int := i + hb0 h i
def p20 (h : MH) (i : Int) : Int := p10 h i + ln0 h (p10 h i) + 1
def p30 (h : MH) (i : Int) : Int := p20 h i + ln0 h (p20 h i)
def nx0 (h : MH) (i : Int) : Int := p30 h i + hb0 h (p30 h i) + 1
def okb0 (h : MH) (i : Int) : Prop := nA0 h (p10 h i) ≠ 0 ∧ nA0 h (p20 h i) ≠ 0
def OKT (h : MH) : Nat → Int → Prop
  | 0, _ => True
  | k + 1, i => ga h 161 8 ≤ i ∨ (okb0 h i ∧ OKT h k (nx0 h i))
theorem OKT.fin {h : MH} {i : Int} (w : ga h 161 8 ≤ i) : ∀ k, OKT h k i
  | 0 => trivial
  | _ + 1 => Or.inl w
theorem hb0_b {h : MH} {i : Int} : 0 ≤ hb0 h i ∧ hb0 h i ≤ 1 := by unfold hb0; split <;> decide
theorem ln0_b {h : MH} {i : Int} : 1 ≤ ln0 h i ∧ ln0 h i ≤ 2 := by unfold ln0; split <;> decide
theorem nA0_b {h : MH} {i : Int} : 0 ≤ nA0 h i ∧ nA0 h i ≤ 12 := by
  unfold nA0
  generalize sg0 h i = x
  generalize sg0 h (i + 1) = y
  (repeat' split) <;> omega
/-- what a text that is taken up may change -/
def tCs : List Nat := [161, 163, 164, 165, 166, 167, 168]
theorem mem_tCs {c : Nat} : c ∈ tCs ↔ c = 161 ∨ (163 ≤ c ∧ c ≤ 168) := by
  unfold tCs
  simp only [List.mem_cons, List.not_mem_nil, or_false]
  omega
def TQ (h : MH) (bm : Int) (x : MH) : Prop := StrZ zT x ∧ Only tCs h x ∧ (∀ j : Int, 0 ≤ j → j ≠ 0 → j ≠ 6 → j ≠ 9 → ga x 161 j = ga h 161 j) ∧ (∀ b : Int, 0 ≤ b → b < 3 → (1 ≤ ga x (sR b) 0 ∧ ga x (sR b) 0 ≤ 12) ∧ (1 ≤ ga x (sR b) 1 ∧ ga x (sR b) 1 ≤ 12)) ∧ (∀ j : Int, 0 ≤ j → j < 4 → -1000 ≤ ga x 168 j ∧ ga x 168 j ≤ 1000) ∧ ga x 161 0 = bm
theorem TQ.sg {h x : MH} {bm : Int} (t : TQ h bm x) (i : Int) : sg0 x i = sg0 h i := by
  unfold sg0
  rw [t.2.2.1 8 (by decide) (by decide) (by decide) (by decide), t.2.1.ga (by decide)]
theorem TQ.nA {h x : MH} {bm : Int} (t : TQ h bm x) (i : Int) : nA0 x i = nA0 h i := by
  unfold nA0
  rw [t.sg, t.sg]
theorem TQ.fld {h x : MH} {bm j v : Int} (t : TQ h bm x) (w : j = 6 ∨ j = 9) : TQ h bm (sa x 161 j v) := by
  obtain ⟨a, b, c, d, e, f⟩ := t
  have u : ∀ i : Int, 0 ≤ i → i ≠ j → ga (sa x 161 j v) 161 i = ga x 161 i := fun i i0 n => by rw [ga_sa _ _ _ (by omega) i0, if_neg n]
  have o : ∀ k : Nat, k ≠ 161 → ∀ i, ga (sa x 161 j v) k i = ga x k i := fun k n i => ga_ne _ _ _ _ n i
  refine ⟨st_fld a (by rcases w with rfl | rfl <;> decide +kernel), b.set (mem_tCs.mpr (Or.inl rfl)), fun i i0 n0 n6 n9 => ?_, fun b' b0 b1 => ?_, fun i i0 i1 => ?_, ?_⟩
  · rw [u i i0 (by omega)]
    exact c i i0 n0 n6 n9
  · have := sR_b (b := b') ⟨b0, b1⟩
    rw [o _ (by omega), o _ (by omega)]
    exact d b' b0 b1
  · rw [o 168 (by decide)]
    exact e i i0 i1
  · rw [u 0 (by decide) (by omega)]
    exact f
theorem TQ.beam {h x : MH} {bm v : Int} (t : TQ h bm x) : TQ h v (sa x 161 0 v) := by
  obtain ⟨a, b, c, d, e, f⟩ := t
  have u : ∀ i : Int, 0 ≤ i → i ≠ 0 → ga (sa x 161 0 v) 161 i = ga x 161 i := fun i i0 n => by rw [ga_sa _ _ _ (by omega) i0, if_neg n]
  have o : ∀ k : Nat, k ≠ 161 → ∀ i, ga (sa x 161 0 v) k i = ga x k i := fun k n i => ga_ne _ _ _ _ n i
  refine ⟨st_fld a (by decide +kernel), b.set (mem_tCs.mpr (Or.inl rfl)), fun i i0 n0 n6 n9 => ?_, fun b' b0 b1 => ?_, fun i i0 i1 => ?_, ?_⟩
  · rw [u i i0 n0]
    exact c i i0 n0 n6 n9
  · have := sR_b (b := b') ⟨b0, b1⟩
    rw [o _ (by omega), o _ (by omega)]
    exact d b' b0 b1
  · rw [o 168 (by decide)]
    exact e i i0 i1
  · rw [ga_sa _ _ _ (by decide) (by decide), if_pos rfl]
theorem TQ.hin {h x : MH} {bm i v : Int} (t : TQ h bm x) : TQ h bm (sa x 166 i v) := by
  obtain ⟨a, b, c, d, e, f⟩ := t
  have o : ∀ k : Nat, k ≠ 166 → ∀ j, ga (sa x 166 i v) k j = ga x k j := fun k n j => ga_ne _ _ _ _ n j
  refine ⟨st_arr a (by decide +kernel), b.set (mem_tCs.mpr (by omega)), fun j i0 n0 n6 n9 => ?_, fun b' b0 b1 => ?_, fun j i0 i1 => ?_, ?_⟩
  · rw [o 161 (by decide)]
    exact c j i0 n0 n6 n9
  · have := sR_b (b := b') ⟨b0, b1⟩
    rw [o _ (by omega), o _ (by omega)]
    exact d b' b0 b1
  · rw [o 168 (by decide)]
    exact e j i0 i1
  · rw [o 161 (by decide)]
    exact f
theorem sR_k {b : Int} (b0 : 0 ≤ b ∧ b < 3) : zKind (sR b) < 6 := by
  have e := sR_z b.toNat (by omega)
  unfold zCell at e
  have e3 := beqN (andB (andB (andB e).2).2).1
  show zKind (163 + b.toNat) < 6
  omega
theorem TQ.siz {h x : MH} {bm b p v : Int} (t : TQ h bm x) (b0 : 0 ≤ b ∧ b < 3) (hp : p = 0 ∨ p = 1) (hv : 1 ≤ v ∧ v ≤ 12) : TQ h bm (sa x (sR b) p v) := by
  obtain ⟨a, b', c, d, e, f⟩ := t
  have sb := sR_b b0
  have o : ∀ k : Nat, k ≠ sR b → ∀ j, ga (sa x (sR b) p v) k j = ga x k j := fun k n j => ga_ne _ _ _ _ n j
  refine ⟨st_arr a (sR_k b0), b'.set (mem_tCs.mpr (by omega)), fun j i0 n0 n6 n9 => ?_, fun b2 b20 b21 => ?_, fun j i0 i1 => ?_, ?_⟩
  · rw [o 161 (by omega)]
    exact c j i0 n0 n6 n9
  · have dd := d b2 b20 b21
    by_cases w : b2 = b
    · subst w
      rw [ga_sa _ _ _ (by omega) (by decide), ga_sa _ _ _ (by omega) (by decide)]
      refine ⟨?_, ?_⟩ <;> split <;> first | exact hv | exact dd.1 | exact dd.2
    · have n : sR b2 ≠ sR b := by
        unfold sR
        omega
      rw [o _ n, o _ n]
      exact dd
  · rw [o 168 (by omega)]
    exact e j i0 i1
  · rw [o 161 (by omega)]
    exact f
theorem TQ.node {h x x' : MH} {bm : Int} (t : TQ h bm x) (s : StrZ zT x') (o : Only [167, 168] x x') (z : ∀ j : Int, 0 ≤ j → ga x' 168 j = ga x 168 j ∨ ga x' 168 j = 0) : TQ h bm x' := by
  obtain ⟨a, b, c, d, e, f⟩ := t
  refine ⟨s, b.trans (o.mono (by decide)), fun j i0 n0 n6 n9 => ?_, fun b2 b20 b21 => ?_, fun j i0 i1 => ?_, ?_⟩
  · rw [o.ga (by decide)]
    exact c j i0 n0 n6 n9
  · have sb := sR_b (b := b2) ⟨b20, b21⟩
    have n : sR b2 ∉ [167, 168] := fun w => by
      simp only [List.mem_cons, List.not_mem_nil, or_false] at w
      omega
    rw [o.ga n, o.ga n]
    exact d b2 b20 b21
  · have := e j i0 i1
    rcases z j i0 with w | w <;> rw [w] <;> omega
  · rw [o.ga (by decide)]
    exact f
