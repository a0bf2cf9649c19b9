/-! locals, the stack, branches, fields and arrays -/
def nnB (env : List Iv) (v : Vl) : Bool := match ivOf env v with
  | some e => decide (0 ≤ e.1)
  | none => false
def xPush (f : Fr) (fs : List Fr) (env : List Iv) (dc : Dc) (me : Mo) (v : Vl) : Option (List St) := some [(sF f (fI' f + 1) (fL' f) (v :: fS f) :: fs, env, dc, me)]
def xLd (t a : Nat) (f : Fr) (fs : List Fr) (env : List Iv) (dc : Dc) (me : Mo) : Option (List St) := match lkL (fL' f) a with
  | some v => if Nat.beq v.1 t && (!(Nat.beq t 2) || nnB env v) then xPush f fs env dc me v else none
  | none => none
def xSto (op a : Nat) (f : Fr) (fs : List Fr) (env : List Iv) (dc : Dc) (me : Mo) : Option (List St) := match fS f with
  | v :: S => if Nat.beq v.1 (op - 7) && (!(Nat.beq op 9) || nnB env v) then some [(sF f (fI' f + 1) (if Nat.beq op 8 then aput2 (fL' f) a v else aput (fL' f) a v) S :: fs, env, dc, me)] else none
  | _ => none
def xInc (z : Int) (a : Nat) (f : Fr) (fs : List Fr) (env : List Iv) (dc : Dc) (me : Mo) : Option (List St) := match lkL (fL' f) a with
  | some v => if Nat.beq v.1 0 then (match ivOf env v with
    | some e => if inT 0 (e.1 + z) (e.2.1 + z) then some [(sF f (fI' f + 1) (aput (fL' f) a (0, v.2.1, v.2.2 + z)) (fS f) :: fs, env, dc, me)] else some [(sF f (fI' f + 1) (aput (fL' f) a (0, env.length, 0)) (fS f) :: fs, env ++ [fI], dc, me)]
    | none => none) else none
  | none => none
def xStk (op : Nat) (f : Fr) (fs : List Fr) (env : List Iv) (dc : Dc) (me : Mo) : Option (List St) :=
  let go := fun (S : List Vl) => some [(sF f (fI' f + 1) (fL' f) S :: fs, env, dc, me)]
  match op, fS f with
  | 39, u :: S => if Nat.beq (vcat u) 1 then go (u :: u :: S) else none
  | 40, u :: S => if Nat.beq (vcat u) 1 then go S else none
  | 41, u :: S => if Nat.beq (vcat u) 2 then go S else none
  | 42, v :: w :: S => if Nat.beq (vcat v) 1 && Nat.beq (vcat w) 1 then go (v :: w :: v :: S) else none
  | 43, v :: w :: u :: S => if Nat.beq (vcat v) 1 && (Nat.beq (vcat w) 1 && Nat.beq (vcat u) 1) then go (v :: w :: u :: v :: S) else none
  | 44, v :: w :: S => if Nat.beq (vcat v) 1 && Nat.beq (vcat w) 1 then go (v :: w :: v :: w :: S) else none
  | _, _ => none
def neg6 (c : Nat) : Nat := match c with
  | 0 => 1
  | 1 => 0
  | 2 => 3
  | 3 => 2
  | 4 => 5
  | _ => 4
def asm2 (env : List Iv) (dc : Dc) (x y : Vl) (j : Int) (u v : Vl) (k : Int) : Option (List Iv × Dc) := match asm env dc x y j with
  | some q => asm q.1 q.2 u v k
  | none => none
def asmNe (env : List Iv) (dc : Dc) (x y : Vl) : Option (List Iv × Dc) := match ivOf env x, ivOf env y with
  | some a, some b => if decide (b.1 = b.2.1) then (if decide (a.1 = b.1) then asm env dc y x (-1) else if decide (a.2.1 = b.1) then asm env dc x y (-1) else some (env, dc))
    else if decide (a.1 = a.2.1) then (if decide (b.1 = a.1) then asm env dc x y (-1) else if decide (b.2.1 = a.1) then asm env dc y x (-1) else some (env, dc)) else some (env, dc)
  | _, _ => some (env, dc)
def asmC (c : Nat) (env : List Iv) (dc : Dc) (x y : Vl) : Option (List Iv × Dc) := match c with
  | 0 => asm2 env dc x y 0 y x 0
  | 1 => asmNe env dc x y
  | 2 => asm env dc x y (-1)
  | 3 => asm env dc y x 0
  | 4 => asm env dc y x (-1)
  | _ => asm env dc x y 0
theorem asmC_of {T : Tc} {ρ : Nat → Int} {env : List Iv} {dc : Dc} (R : RelE T ρ env) (D : DcOk ρ env.length dc) {x y : Vl} (c : Nat) (hc : cnd c (vv ρ x) (vv ρ y)) : ∃ q, asmC c env dc x y = some q ∧ RelE T ρ q.1 ∧ DcOk ρ env.length q.2 ∧ q.1.length = env.length := by
  have hc : cnd c (ρ x.2.1 + x.2.2) (ρ y.2.1 + y.2.2) := hc
  match c, hc with
  | 0, hc =>
    have hc : ρ x.2.1 + x.2.2 = ρ y.2.1 + y.2.2 := hc
    obtain ⟨q, e1, R1, D1, l1⟩ := asm_of R D (x := x) (y := y) (k := 0) (by omega)
    rw [← l1] at D1
    obtain ⟨q2, e2, R2, D2, l2⟩ := asm_of R1 D1 (x := y) (y := x) (k := 0) (by omega)
    refine ⟨q2, ?_, R2, by rw [← l1]; exact D2, l2.trans l1⟩
    show (match asm env dc x y 0 with
      | some q => asm q.1 q.2 y x 0
      | none => none) = _
    rw [e1]
    exact e2
  | 1, hc =>
    have hc : ρ x.2.1 + x.2.2 ≠ ρ y.2.1 + y.2.2 := hc
    show ∃ q, asmNe env dc x y = some q ∧ _
    unfold asmNe
    cases ea : ivOf env x with
    | none => exact ⟨_, rfl, R, D, rfl⟩
    | some a =>
      cases eb : ivOf env y with
      | none => exact ⟨_, rfl, R, D, rfl⟩
      | some b =>
        have ka := ivOf_of R ea
        have kb := ivOf_of R eb
        have ka1 := ka.1
        have ka2 := ka.2.1
        have kb1 := kb.1
        have kb2 := kb.2.1
        show ∃ q, (if decide (b.1 = b.2.1) then (if decide (a.1 = b.1) then asm env dc y x (-1) else if decide (a.2.1 = b.1) then asm env dc x y (-1) else some (env, dc))
          else if decide (a.1 = a.2.1) then (if decide (b.1 = a.1) then asm env dc x y (-1) else if decide (b.2.1 = a.1) then asm env dc y x (-1) else some (env, dc)) else some (env, dc)) = some q ∧ _
        split
        · next p =>
          have p := of_decide_eq_true p
          split
          · next p2 =>
            have p2 := of_decide_eq_true p2
            exact asm_of R D (by omega)
          · split
            · next p2 =>
              have p2 := of_decide_eq_true p2
              exact asm_of R D (by omega)
            · exact ⟨_, rfl, R, D, rfl⟩
        · split
          · next p =>
            have p := of_decide_eq_true p
            split
            · next p2 =>
              have p2 := of_decide_eq_true p2
              exact asm_of R D (by omega)
            · split
              · next p2 =>
                have p2 := of_decide_eq_true p2
                exact asm_of R D (by omega)
              · exact ⟨_, rfl, R, D, rfl⟩
          · exact ⟨_, rfl, R, D, rfl⟩
  | 2, hc =>
    have hc : ρ x.2.1 + x.2.2 < ρ y.2.1 + y.2.2 := hc
    exact asm_of R D (by omega)
  | 3, hc =>
    have hc : ρ y.2.1 + y.2.2 ≤ ρ x.2.1 + x.2.2 := hc
    exact asm_of R D (by omega)
  | 4, hc =>
    have hc : ρ y.2.1 + y.2.2 < ρ x.2.1 + x.2.2 := hc
    exact asm_of R D (by omega)
  | n + 5, hc =>
    have hc : ρ x.2.1 + x.2.2 ≤ ρ y.2.1 + y.2.2 := hc
    exact asm_of R D (by omega)
theorem cnd_neg {c : Nat} {x y : Int} (h : ¬ cnd c x y) : cnd (neg6 c) x y := by
  match c, h with
  | 0, h => exact h
  | 1, h =>
    have h : ¬ (x ≠ y) := h
    show x = y
    omega
  | 2, h => exact Int.not_lt.mp h
  | 3, h => exact Int.not_le.mp h
  | 4, h => exact Int.not_lt.mp h
  | n + 5, h => exact Int.not_le.mp h
def brS (f : Fr) (fs : List Fr) (me : Mo) (i : Nat) (S : List Vl) (q : Option (List Iv × Dc)) : List St := match q with
  | some e => [(sF f i (fL' f) S :: fs, e.1, e.2, me)]
  | none => []
/-- a branch: to a, or to the next but n -/
def xBr (t c a n : Nat) (f : Fr) (fs : List Fr) (env : List Iv) (dc : Dc) (me : Mo) (x y : Vl) (S : List Vl) : Option (List St) := if Nat.beq x.1 t && Nat.beq y.1 t then some (brS f fs me a S (asmC c env dc x y) ++ brS f fs me (fI' f + n) S (asmC (neg6 c) env dc x y)) else none
section CH
variable {E : En} {Q0 : MO → MH → Prop} {h0 : MH} {ρ : Nat → Int} {h : MH} {f : Fr} {fs : List Fr} {env : List Iv} {dc : Dc} {me : Mo} {ss : List St} {pc : Nat} {z : Int} {a b c : Nat}
theorem xPush_of (I : Inv E Q0 h0 ρ h (f :: fs, env, dc, me)) {v : Vl} (hv : v.2.1 < env.length) (hx : xPush f fs env dc me v = some ss) (k : ∀ s ∈ ss, Sound E Q0 h0 s) : MW (kT (fM f)) (SemK Q0 ρ fs) (fC f) (fO f) (pcA (pgT (fM f)) (fI' f + 1)) (cL ρ (fL' f)) (cv ρ v :: cS ρ (fS f)) h := by
  cases hx
  exact goSame I (S := v :: fS f) I.L (fun u hu => (List.mem_cons.mp hu).elim (fun e => e ▸ hv) (I.S u)) (one k)
theorem nn_of (I : Inv E Q0 h0 ρ h (f :: fs, env, dc, me)) {v : Vl} (q : nnB env v = true) : 0 ≤ (cv ρ v).2 := by
  unfold nnB at q
  cases e : ivOf env v with
  | none => rw [e] at q; cases q
  | some A =>
    rw [e] at q
    have q := of_decide_eq_true q
    have := (ivOf_of I.1 e).1
    show 0 ≤ ρ v.2.1 + v.2.2
    omega
theorem xLd_of (I : Inv E Q0 h0 ρ h (f :: fs, env, dc, me)) {t : Nat} (hx : xLd t a f fs env dc me = some ss) (k : ∀ s ∈ ss, Sound E Q0 h0 s) : sLd t (cL ρ (fL' f)) a (cS ρ (fS f)) (fun S => MW (kT (fM f)) (SemK Q0 ρ fs) (fC f) (fO f) (pcA (pgT (fM f)) (fI' f + 1)) (cL ρ (fL' f)) S h) := by
  unfold xLd at hx
  cases e : lkL (fL' f) a with
  | none => rw [e] at hx; cases hx
  | some v =>
    rw [e] at hx
    replace hx : (if Nat.beq v.1 t && (!(Nat.beq t 2) || nnB env v) then xPush f fs env dc me v else none) = some ss := hx
    split at hx
    · next q =>
      rw [Bool.and_eq_true, Bool.or_eq_true] at q
      unfold sLd
      rw [lkL_look e]
      refine ⟨Nat.eq_of_beq_eq_true q.1, fun t2 => ?_, xPush_of I (I.L _ (lkL_mem e)) hx k⟩
      subst t2
      exact nn_of I (q.2.resolve_left (by decide))
    · cases hx
theorem xSto_of (I : Inv E Q0 h0 ρ h (f :: fs, env, dc, me)) {op : Nat} (ho : op = 7 ∨ op = 8 ∨ op = 9) (hx : xSto op a f fs env dc me = some ss) (k : ∀ s ∈ ss, Sound E Q0 h0 s) : Ask Q0 ρ f fs h (pc, op, z, a, b, c) := by
  unfold xSto at hx
  cases eS : fS f with
  | nil => rw [eS] at hx; cases hx
  | cons v S =>
    rw [eS] at hx
    replace hx : (if Nat.beq v.1 (op - 7) && (!(Nat.beq op 9) || nnB env v) then some [(sF f (fI' f + 1) (if Nat.beq op 8 then aput2 (fL' f) a v else aput (fL' f) a v) S :: fs, env, dc, me)] else none) = some ss := hx
    have hS := tl_lt eS I.S
    split at hx
    · next q =>
      cases hx
      rw [Bool.and_eq_true, Bool.or_eq_true] at q
      have q1 := Nat.eq_of_beq_eq_true q.1
      unfold Ask
      rw [eS]
      rcases ho with e | e | e <;> subst e
      · have := goSame I (i := fI' f + 1) (L := aput (fL' f) a v) (S := S) (aput_lt I.L hS.1) hS.2 (one k)
        rw [aput_cL] at this
        exact ⟨q1, this⟩
      · have := goSame I (i := fI' f + 1) (L := aput2 (fL' f) a v) (S := S) (aput2_lt I.L hS.1) hS.2 (one k)
        rw [aput2_cL] at this
        exact ⟨q1, this⟩
      · have := goSame I (i := fI' f + 1) (L := aput (fL' f) a v) (S := S) (aput_lt I.L hS.1) hS.2 (one k)
        rw [aput_cL] at this
        exact ⟨q1, nn_of I (q.2.resolve_left (by decide)), this⟩
    · cases hx
theorem xInc_of (I : Inv E Q0 h0 ρ h (f :: fs, env, dc, me)) (hx : xInc z a f fs env dc me = some ss) (k : ∀ s ∈ ss, Sound E Q0 h0 s) : Ask Q0 ρ f fs h (pc, 11, z, a, b, c) := by
  unfold xInc at hx
  cases e : lkL (fL' f) a with
  | none => rw [e] at hx; cases hx
  | some v =>
    rw [e] at hx
    replace hx : (if Nat.beq v.1 0 then (match ivOf env v with
      | some e => if inT 0 (e.1 + z) (e.2.1 + z) then some [(sF f (fI' f + 1) (aput (fL' f) a (0, v.2.1, v.2.2 + z)) (fS f) :: fs, env, dc, me)] else some [(sF f (fI' f + 1) (aput (fL' f) a (0, env.length, 0)) (fS f) :: fs, env ++ [fI], dc, me)]
      | none => none) else none) = some ss := hx
    split at hx
    · next q =>
      cases ea : ivOf env v with
      | none => rw [ea] at hx; cases hx
      | some A =>
        rw [ea] at hx
        replace hx : (if inT 0 (A.1 + z) (A.2.1 + z) then some [(sF f (fI' f + 1) (aput (fL' f) a (0, v.2.1, v.2.2 + z)) (fS f) :: fs, env, dc, me)] else some [(sF f (fI' f + 1) (aput (fL' f) a (0, env.length, 0)) (fS f) :: fs, env ++ [fI], dc, me)]) = some ss := hx
        split at hx
        · next q2 =>
          cases hx
          have q1 := Nat.eq_of_beq_eq_true q
          have kA := ivOf_of I.1 ea
          have hw := (inT_of q2 (z := ρ v.2.1 + v.2.2 + z) (by have := kA.1; omega) (by have := kA.2.1; omega)).1
          have hv := I.L _ (lkL_mem e)
          have := goSame I (i := fI' f + 1) (L := aput (fL' f) a (0, v.2.1, v.2.2 + z)) (S := fS f) (aput_lt I.L hv) I.S (one k)
          rw [aput_cL] at this
          unfold Ask
          show (match mlook (cL ρ (fL' f)) a with
            | some v => v.1 = 0 ∧ MW _ _ _ _ (pcA (pgT (fM f)) (fI' f + 1)) (mput (cL ρ (fL' f)) a (0, wrI (v.2 + z))) (cS ρ (fS f)) h
            | none => False)
          rw [lkL_look e]
          refine ⟨q1, ?_⟩
          have e2 : cv ρ ((0, v.2.1, v.2.2 + z) : Vl) = (0, wrI ((cv ρ v).2 + z)) := by
            unfold cv
            have hw : wrI (ρ v.2.1 + v.2.2 + z) = ρ v.2.1 + v.2.2 + z := hw
            show (0, ρ v.2.1 + (v.2.2 + z)) = (0, wrI (ρ v.2.1 + v.2.2 + z))
            rw [hw, Int.add_assoc]
          rw [← e2]
          exact this
        · cases hx
          have q1 := Nat.eq_of_beq_eq_true q
          unfold Ask
          show (match mlook (cL ρ (fL' f)) a with
            | some v => v.1 = 0 ∧ MW _ _ _ _ (pcA (pgT (fM f)) (fI' f + 1)) (mput (cL ρ (fL' f)) a (0, wrI (v.2 + z))) (cS ρ (fS f)) h
            | none => False)
          rw [lkL_look e]
          refine ⟨q1, ?_⟩
          have := goLoc I (i := fI' f + 1) (L := aput (fL' f) a (0, env.length, 0)) (S := fS f) (z := wrI ((cv ρ v).2 + z)) (e := fI) ⟨(wrI_rng _).1, (wrI_rng _).2, fun q => absurd rfl q⟩ (aput_lt (fun q hq => Nat.lt_succ_of_lt (I.L q hq)) (Nat.lt_succ_self _)) I.S (one k)
          rw [aput_cL, cL_ext (fun b hb => up_lt hb) I.L] at this
          have e2 : cv (up ρ env.length (wrI ((cv ρ v).2 + z))) ((0, env.length, 0) : Vl) = (0, wrI ((cv ρ v).2 + z)) := by
            unfold cv
            show (0, up ρ env.length _ env.length + 0) = _
            rw [up_at, Int.add_zero]
          rw [e2] at this
          exact this
    · cases hx
theorem xStk_of (I : Inv E Q0 h0 ρ h (f :: fs, env, dc, me)) (op : Nat) (hx : xStk op f fs env dc me = some ss) (k : ∀ s ∈ ss, Sound E Q0 h0 s) : Ask Q0 ρ f fs h (pc, op, z, a, b, c) := by
  unfold xStk at hx
  have go : ∀ (S : List Vl), (∀ v ∈ S, v ∈ fS f) → some [(sF f (fI' f + 1) (fL' f) S :: fs, env, dc, me)] = some ss → MW (kT (fM f)) (SemK Q0 ρ fs) (fC f) (fO f) (pcA (pgT (fM f)) (fI' f + 1)) (cL ρ (fL' f)) (cS ρ S) h := fun S hm e => by
    cases e
    exact goSame I I.L (fun v hv => I.S v (hm v hv)) (one k)
  unfold Ask
  generalize fS f = S0 at *
  split at hx
  · next u S =>
    split at hx
    · next q => exact ⟨Nat.eq_of_beq_eq_true q, go (u :: u :: S) (fun v hv => by simp at hv ⊢; grind) hx⟩
    · cases hx
  · next u S =>
    split at hx
    · next q => exact ⟨Nat.eq_of_beq_eq_true q, go S (fun v hv => List.mem_cons_of_mem _ hv) hx⟩
    · cases hx
  · next u S =>
    split at hx
    · next q => exact ⟨Nat.eq_of_beq_eq_true q, go S (fun v hv => List.mem_cons_of_mem _ hv) hx⟩
    · cases hx
  · next v w S =>
    split at hx
    · next q =>
      rw [Bool.and_eq_true] at q
      exact ⟨Nat.eq_of_beq_eq_true q.1, Nat.eq_of_beq_eq_true q.2, go (v :: w :: v :: S) (fun v hv => by simp at hv ⊢; grind) hx⟩
    · cases hx
  · next v w u S =>
    split at hx
    · next q =>
      rw [Bool.and_eq_true, Bool.and_eq_true] at q
      exact ⟨Nat.eq_of_beq_eq_true q.1, Nat.eq_of_beq_eq_true q.2.1, Nat.eq_of_beq_eq_true q.2.2, go (v :: w :: u :: v :: S) (fun v hv => by simp at hv ⊢; grind) hx⟩
    · cases hx
  · next v w S =>
    split at hx
    · next q =>
      rw [Bool.and_eq_true] at q
      exact ⟨Nat.eq_of_beq_eq_true q.1, Nat.eq_of_beq_eq_true q.2, go (v :: w :: v :: w :: S) (fun v hv => by simp at hv ⊢; grind) hx⟩
    · cases hx
  · cases hx
theorem brS_of (I : Inv E Q0 h0 ρ h (f :: fs, env, dc, me)) {c i : Nat} {x y : Vl} {S : List Vl} (hS : ∀ v ∈ S, v.2.1 < env.length) (hc : cnd c (vv ρ x) (vv ρ y)) (k : ∀ s ∈ brS f fs me i S (asmC c env dc x y), Sound E Q0 h0 s) : MW (kT (fM f)) (SemK Q0 ρ fs) (fC f) (fO f) (pcA (pgT (fM f)) i) (cL ρ (fL' f)) (cS ρ S) h := by
  obtain ⟨q, e, R, D, l⟩ := asmC_of I.1 I.2.1 c hc
  rw [e] at k
  exact goEnv I R D l I.L hS (one k)
theorem xBr_of (I : Inv E Q0 h0 ρ h (f :: fs, env, dc, me)) {t n : Nat} {x y : Vl} {S : List Vl} (hS : ∀ v ∈ S, v.2.1 < env.length) (hx : xBr t c a n f fs env dc me x y S = some ss) (k : ∀ s ∈ ss, Sound E Q0 h0 s) : x.1 = t ∧ y.1 = t ∧ (cnd c (vv ρ x) (vv ρ y) → MW (kT (fM f)) (SemK Q0 ρ fs) (fC f) (fO f) (pcA (pgT (fM f)) a) (cL ρ (fL' f)) (cS ρ S) h) ∧ (¬ cnd c (vv ρ x) (vv ρ y) → MW (kT (fM f)) (SemK Q0 ρ fs) (fC f) (fO f) (pcA (pgT (fM f)) (fI' f + n)) (cL ρ (fL' f)) (cS ρ S) h) := by
  unfold xBr at hx
  split at hx
  · next q =>
    cases hx
    rw [Bool.and_eq_true] at q
    exact ⟨Nat.eq_of_beq_eq_true q.1, Nat.eq_of_beq_eq_true q.2, fun hc => brS_of I hS hc fun s hs => k s (List.mem_append_left _ hs), fun hc => brS_of I hS (cnd_neg hc) fun s hs => k s (List.mem_append_right _ hs)⟩
  · cases hx
end CH
