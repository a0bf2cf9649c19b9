/-! the state of X14 after its table is solved -/
def FS (z s tl : Nat) (h : MH) (M : Int) : Prop := ∃ (T : Int → Int → Rat) (D : Rat), Tab z s h T ∧ Fm T (4 * M) D ∧ ∀ j : Int, 0 ≤ j → j < 4 * M → 0 ≤ ga h tl j ∧ ga h tl j < 4 * M
theorem Sv.firm {z s ob tl : Nat} {h : MH} {M : Int} (v : Sv z s ob tl h M) (hM : 1 ≤ M ∧ M ≤ 3) (e : ga h ob 18 = 4 * M) : FS z s tl h M := by
  obtain ⟨T, k, tb, gs, hk, t⟩ := v
  have ek : (k : Int) = 4 * M := by omega
  have e2 : k = (4 * M).toNat := by omega
  rw [e2] at gs
  obtain ⟨D, f⟩ := gs.firm (by omega) (by omega)
  refine ⟨T, D, tb, f, fun j a b => ?_⟩
  have x := t.1 j a b
  have y := t.2 ek j a b
  omega
/-- what is known of the table while beams that move are looked for -/
def Lk (z s tl : Nat) (h : MH) (M : Int) (T : Int → Int → Rat) : Prop := Tab z s h T ∧ (∀ a x : Int, 0 ≤ a → a < 4 * M → 0 ≤ x → x < 28 → SzQ 12 (T a x)) ∧ ∀ j : Int, 0 ≤ j → j < 4 * M → ga h tl j = -1 ∨ (0 ≤ ga h tl j ∧ ga h tl j < 4 * M)
theorem Sv.ls {z s ob tl : Nat} {h : MH} {M : Int} (v : Sv z s ob tl h M) (hM : 1 ≤ M ∧ M ≤ 3) : ∃ T : Int → Int → Rat, Lk z s tl h M T := by
  obtain ⟨T, k, tb, gs, hk, t⟩ := v
  have l := gs.le
  refine ⟨T, tb, fun a x a0 a1 x0 x1 => gs.size (by omega) (by omega) a0 (by omega) x0 x1, fun j a b => ?_⟩
  have x := t.1 j a b
  omega
theorem Sv.keep {z s ob tl : Nat} {h h' : MH} {M : Int} {cs : List Nat} (v : Sv z s ob tl h M) (o : Only cs h h') (k : ∀ T : Int → Int → Rat, Tab z s h T → Tab z s h' T) (n1 : ob ∉ cs) (n2 : tl ∉ cs) : Sv z s ob tl h' M := by
  obtain ⟨T, q, tb, gs, hk, t⟩ := v
  exact ⟨T, q, k T tb, gs, (o.ga n1 _).trans hk, t.only o n2⟩
theorem Lk.keep {z s tl : Nat} {h h' : MH} {M : Int} {T : Int → Int → Rat} {cs : List Nat} (v : Lk z s tl h M T) (o : Only cs h h') (t : Tab z s h' T) (n : tl ∉ cs) : Lk z s tl h' M T := ⟨t, v.2.1, fun j a b => by
  rw [o.ga n j]
  exact v.2.2 j a b⟩
