/-! the law's entry -/
theorem eval_eqi {args : Array Value} {s : State} {t : Term} {z : Int32} (h : (Cond.eq t (.int z)).before args s = true) : t.eval args s none [] s = some (.int z) := by
  cases hv : t.eval args s none [] s with
  | none => simp [Cond.before, Cond.holds, Cond.value, hv] at h
  | some w =>
    have hz : (Term.int z).eval args s none [] s = some (.int z) := rfl
    simp only [Cond.before, Cond.holds, Cond.value, hv, hz] at h
    cases w <;> simp_all
/-- a static array of 16 numbers -/
theorem ent_arr {args : Array Value} {s : State} {C n : String} {v : Nat → Int} (h1 : (Cond.arrayOf (.static C n "[I") .int).before args s = true) (h2 : (Cond.eq (.length (.static C n "[I")) (.int 16)).before args s = true) (h3 : ∀ j : Nat, j < 16 → (Cond.eq (.elem (.static C n "[I") (.int (Int32.ofNat j))) (.int (Int32.ofInt (v j)))).before args s = true) :
    ∃ (a : Nat) (cell : Cell), (Term.static C n "[I").eval args s none [] s = some (.ref a) ∧ s.heap[a]? = some cell ∧ s.isArrayOf cell .int ∧ cell.vm ≠ .unknown ∧ 16 ≤ cell.slots.size ∧ cell.slots.size.toInt32 = Int32.ofNat 16 ∧ ∀ j : Nat, j < 16 → cell.slots[j]? = some (.int (Int32.ofInt (v j))) := by
  obtain ⟨a, cell, ha, hc, hs⟩ := Term.length_spec (eval_eqi h2)
  obtain ⟨hcell, hkn, -, -⟩ := State.arrayAt?_spec hc
  have hof := Cond.arrayOf_spec h1 ha hcell
  have hs : cell.slots.size.toInt32 = 16 := by
    injection hs with hs
    exact hs.symm
  have he : ∀ j : Nat, j < 16 → ¬ cell.slots.size ≤ j ∧ cell.slots[j]? = some (.int (Int32.ofInt (v j))) := fun j hj => by
    obtain ⟨a2, j2, c2, e1, e2, e3, e4, e5⟩ := Term.elem_spec (eval_eqi (h3 j hj))
    have e1 := Option.some.inj (ha.symm.trans e1)
    injection e1 with e1
    subst e1
    cases Option.some.inj (hc.symm.trans e3)
    have e2 : (Int32.ofNat j : Int32) = j2 := by
      have := Option.some.inj e2
      injection this
    subst e2
    have hj : (Int32.ofNat j).toNatClampNeg = j := by
      have : ∀ j : Nat, j < 16 → (Int32.ofNat j).toNatClampNeg = j := by decide
      exact this j hj
    rw [hj] at e4 e5
    exact ⟨fun q => e4 (Or.inr q), e5⟩
  exact ⟨a, cell, ha, hcell, hof.1, hof.2, by have := (he 15 (by decide)).1; omega, hs, fun j hj => (he j hj).2⟩
theorem ent_kn {args : Array Value} {s : State} (hts : ∀ w ∈ mTB, w.before args s = true) : ∀ q ∈ mcl, ∃ (c : ClassId) (i : Nat → Nat), u_Kn s q.1 q.2.1 q.2.2 c i := by
  exact List.forall_mem_cons.mpr ⟨u_known hts lu_X0 (hts _ ln_X0), List.forall_mem_cons.mpr ⟨u_known hts lu_X1 (hts _ ln_X1), List.forall_mem_cons.mpr ⟨u_known hts lu_X2 (hts _ ln_X2), List.forall_mem_cons.mpr ⟨u_known hts lu_X3 (hts _ ln_X3), List.forall_mem_cons.mpr ⟨u_known hts lu_X4 (hts _ ln_X4), List.forall_mem_cons.mpr ⟨u_known hts lu_X5 (hts _ ln_X5), List.forall_mem_cons.mpr ⟨u_known hts lu_X6 (hts _ ln_X6), List.forall_mem_cons.mpr ⟨u_known hts lu_X7 (hts _ ln_X7), List.forall_mem_cons.mpr ⟨u_known hts lu_X8 (hts _ ln_X8), List.forall_mem_cons.mpr ⟨u_known hts lu_X9 (hts _ ln_X9), List.forall_mem_cons.mpr ⟨u_known hts lu_X10 (hts _ ln_X10), List.forall_mem_cons.mpr ⟨u_known hts lu_X11 (hts _ ln_X11), List.forall_mem_cons.mpr ⟨u_known hts lu_X12 (hts _ ln_X12), List.forall_mem_cons.mpr ⟨u_known hts lu_X13 (hts _ ln_X13), List.forall_mem_cons.mpr ⟨u_known hts lu_X14 (hts _ ln_X14), List.forall_mem_cons.mpr ⟨u_known hts lu_X15 (hts _ ln_X15), List.forall_mem_cons.mpr ⟨u_known hts lu_X16 (hts _ ln_X16), List.forall_mem_cons.mpr ⟨u_known hts lu_X17 (hts _ ln_X17), List.forall_mem_cons.mpr ⟨u_known hts lu_X18 (hts _ ln_X18), List.forall_mem_cons.mpr ⟨u_known hts lu_X19 (hts _ ln_X19), List.forall_mem_cons.mpr ⟨u_known hts lu_X20 (hts _ ln_X20), fun _ h => absurd h List.not_mem_nil⟩⟩⟩⟩⟩⟩⟩⟩⟩⟩⟩⟩⟩⟩⟩⟩⟩⟩⟩⟩⟩
theorem ent_D {args : Array Value} {s : State} (c0 : ClassId) (hts : ∀ w ∈ mTB, w.before args s = true) : ∃ D : va_G, va_K D mcl [] s := by
  have h : ∀ k : Nat, ∃ p : ClassId × (Nat → Nat), ∀ q : vw_C, mcl[k]? = some q → u_Kn s q.1 q.2.1 q.2.2 p.1 p.2 := fun k => by
    cases e : mcl[k]? with
    | none => exact ⟨(c0, fun _ => 0), fun q z => by cases z⟩
    | some q =>
      obtain ⟨c, i, z⟩ := ent_kn hts q (List.mem_of_getElem? e)
      exact ⟨(c, i), fun q' z' => by cases z'; exact z⟩
  exact ⟨(fun k => (Classical.choose (h k)).1, fun k => (Classical.choose (h k)).2), fun k q hq => Classical.choose_spec (h k) q hq, fun k q hq => by cases hq⟩
