/-! logJoin: what its numbers are worth -/
def F64 (z : Int) : UInt64 := FP.l2d (Int64.ofInt z)
abbrev dK (x : UInt64) : Int := Jvm.FP.Core.dkey x
def nanD (x : UInt64) : Prop := Jvm.FP.Core.val64 x = .nan
theorem b53_of {z : Int} (h : -4294967296 ≤ z ∧ z ≤ 4294967296) : Jvm.RoadKit.B53 (Int64.ofInt z) := by
  unfold Jvm.RoadKit.B53
  rw [mL_toInt (by omega)]
  omega
theorem F64_cmp {a b : Int} (ha : -4294967296 ≤ a ∧ a ≤ 4294967296) (hb : -4294967296 ≤ b ∧ b ≤ 4294967296) : Jvm.FP.Core.dcmp (F64 a) (F64 b) = some (if a < b then .lt else if a = b then .eq else .gt) := by
  have q := Jvm.FP.Core.dcmp_l2d (Jvm.RoadKit.sm (b53_of ha)) (Jvm.RoadKit.sm (b53_of hb))
  rw [mL_toInt (by omega), mL_toInt (by omega)] at q
  exact q
theorem F64_nn {a : Int} (ha : -4294967296 ≤ a ∧ a ≤ 4294967296) : ¬ nanD (F64 a) := (Jvm.FP.Core.dcmp_some (F64_cmp ha ha)).1
theorem F64_lt {a b : Int} (ha : -4294967296 ≤ a ∧ a ≤ 4294967296) (hb : -4294967296 ≤ b ∧ b ≤ 4294967296) (h : a < b) : dK (F64 a) < dK (F64 b) := by
  have q := F64_cmp ha hb
  rw [if_pos h] at q
  exact (Jvm.FP.Core.dcmp_lt_key (F64_nn ha) (F64_nn hb)).mp q
theorem F64_i {z : Int} (h : -2147483648 ≤ z ∧ z ≤ 2147483647) : FP.i2d (Int32.ofInt z) = F64 z := by
  rw [Jvm.RoadKit.i2d_w]
  unfold F64
  congr 1
  apply Int64.toInt_inj.mp
  rw [Int32.toInt_toInt64, mI_toInt h, mL_toInt (by omega)]
theorem F64_sub {a b : Int} (ha : -2147483648 ≤ a ∧ a ≤ 2147483647) (hb : -2147483648 ≤ b ∧ b ≤ 2147483647) : FP.dsub (F64 a) (F64 b) = F64 (a - b) := by
  unfold F64
  rw [Jvm.RoadKit.dsub_w (b53_of (by omega)) (b53_of (by omega)), Int64.ofInt_sub]
theorem cm_of {w x : UInt64} (hx : ¬ nanD x) (op : CmpOp) : (nanD w ∧ (Op.cmpValue (FP.dcmp w x) op).toInt = (match op with | .l => -1 | .g => 1)) ∨ (¬ nanD w ∧ ((dK w < dK x ∧ (Op.cmpValue (FP.dcmp w x) op).toInt = -1) ∨ (dK w = dK x ∧ (Op.cmpValue (FP.dcmp w x) op).toInt = 0) ∨ (dK x < dK w ∧ (Op.cmpValue (FP.dcmp w x) op).toInt = 1))) := by
  by_cases hw : nanD w
  · refine Or.inl ⟨hw, ?_⟩
    rw [show FP.dcmp w x = none from (Jvm.FP.Core.dcmp_none w x).mpr (Or.inl hw)]
    cases op <;> decide
  · refine Or.inr ⟨hw, ?_⟩
    rcases Int.lt_trichotomy (dK w) (dK x) with h | h | h
    · rw [show FP.dcmp w x = some .lt from (Jvm.FP.Core.dcmp_lt_key hw hx).mpr h]
      exact Or.inl ⟨h, rfl⟩
    · rw [show FP.dcmp w x = some .eq from (Jvm.FP.Core.dcmp_eq_key hw hx).mpr h]
      exact Or.inr (Or.inl ⟨h, rfl⟩)
    · rw [show FP.dcmp w x = some .gt from (Jvm.FP.Core.dcmp_gt_key hw hx).mpr h]
      exact Or.inr (Or.inr ⟨h, rfl⟩)
/-- the same bits, or neither is a number -/
def AL (a b : UInt64) : Prop := a = b ∨ (nanD a ∧ nanD b)
theorem nan_iff {a : UInt64} : isNaN64 a = true ↔ nanD a := by
  rw [isNaN64_not]
  constructor
  · intro h
    exact Classical.byContradiction fun q => h (Jvm.Free.Fl.val64_no.mpr q)
  · intro h q
    exact Jvm.Free.Fl.val64_no.mp q h
theorem AL_iff {a b : UInt64} : alike64 a b = true ↔ AL a b := by
  unfold alike64 AL
  rw [Bool.or_eq_true, Bool.and_eq_true, decide_eq_true_eq, nan_iff, nan_iff]
theorem AL.symm {a b : UInt64} (h : AL a b) : AL b a := h.elim (fun e => Or.inl e.symm) fun ⟨x, y⟩ => Or.inr ⟨y, x⟩
theorem AL.nan {a b : UInt64} (h : AL a b) (n : nanD b) : nanD a := h.elim (fun e => e ▸ n) fun z => z.1
theorem AL.trans {a b c : UInt64} (h : AL a b) (g : AL b c) : AL a c := by
  rcases h with rfl | ⟨h1, h2⟩
  · exact g
  · exact Or.inr ⟨h1, g.symm.nan h2⟩
theorem AL.op {f : UInt64 → UInt64 → UInt64} (hf : ∀ a b, ¬ nanD (f a b) → ¬ nanD a ∧ ¬ nanD b) {a a' b b' r r' : UInt64} (ha : AL a a') (hb : AL b b') (h : AL r (f a b)) (h' : AL r' (f a' b')) : AL r r' := by
  have nn : nanD (f a b) → nanD (f a' b') → AL r r' := fun x y => Or.inr ⟨h.nan x, h'.nan y⟩
  have n1 : ∀ {a b}, nanD a → nanD (f a b) := fun z => Classical.byContradiction fun q => (hf _ _ q).1 z
  have n2 : ∀ {a b}, nanD b → nanD (f a b) := fun z => Classical.byContradiction fun q => (hf _ _ q).2 z
  rcases ha with rfl | ⟨x, y⟩
  · rcases hb with rfl | ⟨x, y⟩
    · exact h.trans h'.symm
    · exact nn (n2 x) (n2 y)
  · exact nn (n1 x) (n1 y)
theorem nn_of {x : UInt64} : ¬ nanD x ↔ Jvm.Free.Fl.NoNaN64 x := Jvm.Free.Fl.val64_no.symm
theorem nn_sub (a b : UInt64) (h : ¬ nanD (FP.dsub a b)) : ¬ nanD a ∧ ¬ nanD b := ⟨nn_of.mpr (Jvm.Free.Fl.dsub_in (nn_of.mp h)).1, nn_of.mpr (Jvm.Free.Fl.dsub_in (nn_of.mp h)).2⟩
theorem nn_add (a b : UInt64) (h : ¬ nanD (FP.dadd a b)) : ¬ nanD a ∧ ¬ nanD b := ⟨nn_of.mpr (Jvm.Free.Fl.dadd_in (nn_of.mp h)).1, nn_of.mpr (Jvm.Free.Fl.dadd_in (nn_of.mp h)).2⟩
theorem nn_mul (a b : UInt64) (h : ¬ nanD (FP.dmul a b)) : ¬ nanD a ∧ ¬ nanD b := ⟨nn_of.mpr (Jvm.Free.Fl.dmul_in (nn_of.mp h)).1, nn_of.mpr (Jvm.Free.Fl.dmul_in (nn_of.mp h)).2⟩
theorem nn_div (a b : UInt64) (h : ¬ nanD (FP.ddiv a b)) : ¬ nanD a ∧ ¬ nanD b := ⟨nn_of.mpr (Jvm.Free.Fl.ddiv_in (nn_of.mp h)).1, nn_of.mpr (Jvm.Free.Fl.ddiv_in (nn_of.mp h)).2⟩
/-- the law's test says: the same, or neither is a number -/
def okCmp (p q : UInt64) : Prop := (Op.cmpValue (FP.dcmp p q) .l).toInt = 0 ∨ (Op.cmpValue (FP.dcmp p p) .l).toInt ≠ 0 ∧ (Op.cmpValue (FP.dcmp q q) .l).toInt ≠ 0
theorem okCmp_of {p q : UInt64} (h : AL p q) : okCmp p q := by
  have n : ∀ x : UInt64, nanD x → (Op.cmpValue (FP.dcmp x x) .l).toInt ≠ 0 := fun x hx => by
    rw [show FP.dcmp x x = none from (Jvm.FP.Core.dcmp_none x x).mpr (Or.inl hx)]
    decide
  rcases h with rfl | ⟨x, y⟩
  · by_cases z : nanD p
    · exact Or.inr ⟨n p z, n p z⟩
    · refine Or.inl ?_
      rw [show FP.dcmp p p = some .eq from Jvm.FP.Core.dcmp_self z]
      decide
  · exact Or.inr ⟨n p x, n q y⟩
def mone : UInt64 := 13830554455654793216
/-- between two lines -/
def seg (R C : Int → Int) (b : Int) (w r : UInt64) : Prop := ∃ r1 r2 r3 : UInt64, AL r1 (FP.dsub (F64 (R (b - 1))) w) ∧ AL r2 (FP.dmul (F64 (C b - C (b - 1))) r1) ∧ AL r3 (FP.ddiv r2 (F64 (R (b - 1) - R b))) ∧ AL r (FP.dadd (F64 (C (b - 1))) r3)
/-- what logJoin answers, of a class of n lines -/
def LJ (n : Int) (R C : Int → Int) (w r : UInt64) : Prop := ((n ≤ 0 ∨ nanD w ∨ dK w < dK (F64 (R (n - 1)))) ∧ r = mone) ∨ (0 < n ∧ ¬ nanD w ∧ dK (F64 (R (n - 1))) ≤ dK w ∧ ((dK (F64 (R 0)) ≤ dK w ∧ r = F64 (C 0)) ∨ (dK w < dK (F64 (R 0)) ∧ ∃ b : Int, 1 ≤ b ∧ b ≤ n - 1 ∧ dK (F64 (R b)) ≤ dK w ∧ dK w < dK (F64 (R (b - 1))) ∧ seg R C b w r)))
theorem seg.same {R C : Int → Int} {b : Int} {w w' r r' : UInt64} (a : AL w w') (h : seg R C b w r) (h' : seg R C b w' r') : AL r r' := by
  obtain ⟨a1, a2, a3, e1, e2, e3, e4⟩ := h
  obtain ⟨b1, b2, b3, f1, f2, f3, f4⟩ := h'
  exact AL.op nn_add (Or.inl rfl) (AL.op nn_div (AL.op nn_mul (Or.inl rfl) (AL.op nn_sub (Or.inl rfl) a e1 f1) e2 f2) (Or.inl rfl) e3 f3) e4 f4
theorem LJ.same {n : Int} {R C : Int → Int} {w w' r r' : UInt64} (mono : ∀ i j : Int, 0 ≤ i → i < j → j < n → dK (F64 (R j)) < dK (F64 (R i))) (a : AL w w') (h : LJ n R C w r) (h' : LJ n R C w' r') : AL r r' := by
  rcases a with rfl | ⟨x, y⟩
  · rcases h with ⟨h1, h2⟩ | ⟨h0, h1, h2, h3⟩
    · rcases h' with ⟨g1, g2⟩ | ⟨g0, g1, g2, g3⟩
      · exact Or.inl (h2.trans g2.symm)
      · rcases h1 with z | z | z
        · omega
        · exact absurd z g1
        · omega
    · rcases h' with ⟨g1, g2⟩ | ⟨g0, g1, g2, g3⟩
      · rcases g1 with z | z | z
        · omega
        · exact absurd z h1
        · omega
      · rcases h3 with ⟨h3, h4⟩ | ⟨h3, b, b1, bn, b2, b3, b4⟩
        · rcases g3 with ⟨g3, g4⟩ | ⟨g3, -⟩
          · exact Or.inl (h4.trans g4.symm)
          · omega
        · rcases g3 with ⟨g3, g4⟩ | ⟨g3, b', b1', bn', b2', b3', b4'⟩
          · omega
          · have e : b = b' := by
              rcases Int.lt_trichotomy b b' with z | z | z
              · rcases (show b = b' - 1 ∨ b < b' - 1 by omega) with q | q
                · rw [← q] at b3'; omega
                · have := mono b (b' - 1) (by omega) q (by omega); omega
              · exact z
              · rcases (show b' = b - 1 ∨ b' < b - 1 by omega) with q | q
                · rw [← q] at b3; omega
                · have := mono b' (b - 1) (by omega) q (by omega); omega
            subst e
            exact b4.same (Or.inl rfl) b4'
  · rcases h with ⟨h1, h2⟩ | ⟨h0, h1, h2, h3⟩
    · rcases h' with ⟨g1, g2⟩ | ⟨g0, g1, g2, g3⟩
      · exact Or.inl (h2.trans g2.symm)
      · exact absurd y g1
    · exact absurd x h1
theorem LJ.congr {n : Int} {R C R' C' : Int → Int} {w r : UInt64} (e : ∀ k : Int, 0 ≤ k → k < n → R k = R' k ∧ C k = C' k) (h : LJ n R C w r) : LJ n R' C' w r := by
  rcases h with ⟨h1, h2⟩ | ⟨h0, h1, h2, h3⟩
  · refine Or.inl ⟨?_, h2⟩
    by_cases n0 : n ≤ 0
    · exact Or.inl n0
    · rw [(e (n - 1) (by omega) (by omega)).1] at h1
      exact h1
  · refine Or.inr ⟨h0, h1, by rw [← (e (n - 1) (by omega) (by omega)).1]; exact h2, ?_⟩
    rw [← (e 0 (by omega) h0).1, ← (e 0 (by omega) h0).2]
    rcases h3 with h3 | ⟨h3, b, b1, bn, b2, b3, a1, a2, a3, e1, e2, e3, e4⟩
    · exact Or.inl h3
    · have x1 := e b (by omega) (by omega)
      have x2 := e (b - 1) (by omega) (by omega)
      rw [x1.1] at b2 e3
      rw [x2.1] at b3 e1 e3
      rw [x1.2, x2.2] at e2
      rw [x2.2] at e4
      exact Or.inr ⟨h3, b, b1, bn, b2, b3, a1, a2, a3, e1, e2, e3, e4⟩
theorem dv_n (z : UInt64) : dv ((z.toNat : Nat) : Int) = z := mDb z
