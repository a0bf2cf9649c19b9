/-! X0: elimination without fractions, whole numbers and their size -/
theorem sumN_cb {f : Nat → Rat} {x : Rat} : ∀ n : Nat, (∀ j, j < n → f j ≤ x) → sumN n f ≤ (n : Rat) * x
  | 0, _ => by
    show (0 : Rat) ≤ ((0 : Nat) : Rat) * x
    have : ((0 : Nat) : Rat) = 0 := rfl
    rw [this]
    grind
  | n + 1, h => by
    have a := sumN_cb n fun j hj => h j (by omega)
    have b := h n (by omega)
    have c : ((n + 1 : Nat) : Rat) = (n : Rat) + 1 := by rw [Rat.natCast_add]; rfl
    show sumN n f + f n ≤ _
    rw [c]
    grind
def zR (B : Nat → Nat → Int) : Nat → Nat → Rat := fun r c => ((B r c : Int) : Rat)
theorem GQ.isz {n m k : Nat} {B : Nat → Nat → Int} {C : Nat → Nat → Rat} {p : Nat → Nat} {q : Nat → Bool} {D : Rat} (g : GQ n m (zR B) C k p q D) (nm : n ≤ m) {r c : Nat} (hr : r < n) (hc : c < m) : isZ (C r c) := by
  obtain ⟨j, M, _, e, h⟩ := g.val nm hr hc
  rw [e]
  refine det_isZ j M fun a b ha hb => ?_
  obtain ⟨x, y, _, _, e⟩ := h a b ha hb
  rw [e]
  exact ⟨B x y, rfl⟩
theorem GQ.size {n m k : Nat} {B V : Nat → Nat → Int} {p : Nat → Nat} {q : Nat → Bool} {D : Rat} (g : GQ n m (zR B) (zR V) k p q D) (nm : n ≤ m) (k8 : k ≤ 8) (bB : ∀ r c, r < n → c < m → -68719476736 ≤ B r c ∧ B r c ≤ 68719476736) {r c : Nat} (hr : r < n) (hc : c < m) : (V r c).natAbs < 1073741824 ^ 12 := by
  obtain ⟨j, M, hj, e, h⟩ := g.val nm hr hc
  have ent : ∀ a b, a < j → b < j → ab (M a b) ≤ 68719476736 := fun a b ha hb => by
    obtain ⟨x, y, hx, hy, e⟩ := h a b ha hb
    rw [e]
    show ab ((B x y : Int) : Rat) ≤ _
    rw [ab_int]
    have := bB x y hx hy
    have l : (((B x y).natAbs : Int) : Rat) ≤ ((68719476736 : Int) : Rat) := Rat.intCast_le_intCast.mpr (by omega)
    exact l
  have rs : ∀ a, a < j → sumN j (fun b => ab (M a b)) ≤ 618475290624 := fun a ha => by
    have s := sumN_cb j fun b hb => ent a b ha hb
    have j9 : (j : Rat) ≤ ((9 : Nat) : Rat) := by exact_mod_cast (show j ≤ 9 by omega)
    have n9 : ((9 : Nat) : Rat) = 9 := rfl
    grind
  have d := det_bd (R := fun _ => 618475290624) j M rs
  have d2 := prN_mono (f := fun _ => (618475290624 : Rat)) (k := j) 9 (by omega) (fun _ _ => by decide)
  have d3 : prN 9 (fun _ => (618475290624 : Rat)) = ((618475290624 ^ 9 : Int) : Rat) := by decide +kernel
  rw [← e] at d
  have d4 : ab ((V r c : Int) : Rat) ≤ ((618475290624 ^ 9 : Int) : Rat) := by
    rw [← d3]
    exact Rat.le_trans d d2
  rw [ab_int] at d4
  have d5 : ((V r c).natAbs : Int) ≤ 618475290624 ^ 9 := Rat.intCast_le_intCast.mp d4
  have d6 : (618475290624 : Int) ^ 9 < 1073741824 ^ 12 := by decide
  have d7 : ((1073741824 ^ 12 : Nat) : Int) = 1073741824 ^ 12 := by decide
  omega
theorem GQ.stepZ {n m k P : Nat} {B V : Nat → Nat → Int} {p : Nat → Nat} {q : Nat → Bool} {D : Int} (g : GQ n m (zR B) (zR V) k p q ((D : Int) : Rat)) (nm : n ≤ m) (hP : P < n) (qP : q P = false) (c0 : V P P ≠ 0) : ∃ W : Nat → Nat → Int, (∀ c, W P c = V P c) ∧ (∀ r c, r < n → c < m → r ≠ P → D * W r c = V r c * V P P - V r P * V P c) ∧ GQ n m (zR B) (zR W) (k + 1) (fun i => if i < k then p i else P) (fun r => if r = P then true else q r) ((V P P : Int) : Rat) := by
  have d0 := g.1
  have D0 : D ≠ 0 := fun w => d0 (by rw [w]; rfl)
  let C : Nat → Nat → Rat := fun r c => if r = P then ((V P c : Int) : Rat) else (((V r c * V P P - V r P * V P c : Int)) : Rat) / ((D : Int) : Rat)
  have cP : ∀ c, C P c = ((V P c : Int) : Rat) := fun c => if_pos rfl
  have cr : ∀ r c, r ≠ P → C r c = (((V r c * V P P - V r P * V P c : Int)) : Rat) / ((D : Int) : Rat) := fun r c h => if_neg h
  have z0 : zR V P P ≠ 0 := fun w => c0 (by
    have w2 : ((V P P : Int) : Rat) = 0 := w
    exact_mod_cast w2)
  have g' := g.step (C' := C) nm hP qP z0 (fun c _ => cP c) (fun r c _ _ h => by
    rw [cr r c h]
    have e : (((V r c * V P P - V r P * V P c : Int)) : Rat) = zR V r c * zR V P P - zR V r P * zR V P c := by
      show _ = ((V r c : Int) : Rat) * _ - _
      rw [Rat.intCast_sub, Rat.intCast_mul, Rat.intCast_mul]
      rfl
    rw [e]
    grind)
  have iz : ∀ r c, r < n → c < m → isZ (C r c) := fun r c hr hc => g'.isz nm hr hc
  let W : Nat → Nat → Int := fun r c => if r = P then V P c else (V r c * V P P - V r P * V P c) / D
  have wC : ∀ r c, r < n → c < m → r ≠ P → D * W r c = V r c * V P P - V r P * V P c ∧ ((W r c : Int) : Rat) = C r c := fun r c hr hc h => by
    obtain ⟨z, ez⟩ := iz r c hr hc
    have e1 : V r c * V P P - V r P * V P c = D * z := by
      have := cr r c h
      rw [ez] at this
      have e2 : (((V r c * V P P - V r P * V P c : Int)) : Rat) = ((D * z : Int) : Rat) := by
        rw [Rat.intCast_mul]
        grind
      exact_mod_cast e2
    have e3 : W r c = z := by
      show (if r = P then V P c else _) = z
      rw [if_neg h, e1, Int.mul_ediv_cancel_left _ D0]
    rw [e3]
    exact ⟨e1.symm, ez.symm⟩
  refine ⟨W, fun c => if_pos rfl, fun r c hr hc h => (wC r c hr hc h).1, ?_⟩
  obtain ⟨a1, a2, a3, a4, a5⟩ := g'
  have wE : ∀ r c, r < n → c < m → zR W r c = C r c := fun r c hr hc => by
    by_cases h : r = P
    · subst h
      rw [cP]
      show ((W r c : Int) : Rat) = _
      rw [show W r c = V r c from if_pos rfl]
    · exact (wC r c hr hc h).2
  refine ⟨a1, a2, a3, a4, fun r c hr hc => ?_⟩
  rw [wE r c hr hc, sumN_congr (k + 1) (g := fun i => zR B r (if i < k then p i else P) * C (if i < k then p i else P) c) fun j hj => by rw [wE _ c (a3 j hj).1 hc]]
  exact a5 r c hr hc
