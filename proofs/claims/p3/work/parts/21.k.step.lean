/-! the step, the check, and what it is worth -/
def exec (E : En) (res : Option (Nat × Iv)) (f : Fr) (fs : List Fr) (env : List Iv) (dc : Dc) (me : Mo) (mi : MI) : Option (List St) :=
  let a := mi.2.2.2.1
  let b := mi.2.2.2.2.1
  let c := mi.2.2.2.2.2
  match mi.2.1 with
  | 1 => xPush f fs env dc me (0, 0, mi.2.2.1)
  | 2 => xPush f fs env dc me (1, 0, mi.2.2.1)
  | 3 => xLd 0 a f fs env dc me
  | 4 => xLd 1 a f fs env dc me
  | 5 => xLd 2 a f fs env dc me
  | 7 => xSto 7 a f fs env dc me
  | 8 => xSto 8 a f fs env dc me
  | 9 => xSto 9 a f fs env dc me
  | 11 => xInc mi.2.2.1 a f fs env dc me
  | 12 => xBin 12 f fs env dc me
  | 13 => xBin 13 f fs env dc me
  | 14 => xBin 14 f fs env dc me
  | 16 => xBin 16 f fs env dc me
  | 17 => xBin 17 f fs env dc me
  | 18 => xBin 18 f fs env dc me
  | 20 => xBin 20 f fs env dc me
  | 21 => xBin 21 f fs env dc me
  | 22 => xBin 22 f fs env dc me
  | 23 => xBin 23 f fs env dc me
  | 24 => xBin 24 f fs env dc me
  | 25 => xBin 25 f fs env dc me
  | 26 => xBin 26 f fs env dc me
  | 27 => xBin 27 f fs env dc me
  | 28 => xBin 28 f fs env dc me
  | 29 => xBin 29 f fs env dc me
  | 30 => xBin 30 f fs env dc me
  | 31 => xBin 31 f fs env dc me
  | 32 => xBin 32 f fs env dc me
  | 33 => xBin 33 f fs env dc me
  | 69 => xBin 69 f fs env dc me
  | 70 => xBin 70 f fs env dc me
  | 71 => xBin 71 f fs env dc me
  | 72 => xBin 72 f fs env dc me
  | 15 => xUn 15 f fs env dc me
  | 19 => xUn 19 f fs env dc me
  | 35 => xUn 35 f fs env dc me
  | 36 => xUn 36 f fs env dc me
  | 37 => xUn 37 f fs env dc me
  | 38 => xUn 38 f fs env dc me
  | 39 => xStk 39 f fs env dc me
  | 40 => xStk 40 f fs env dc me
  | 41 => xStk 41 f fs env dc me
  | 42 => xStk 42 f fs env dc me
  | 43 => xStk 43 f fs env dc me
  | 44 => xStk 44 f fs env dc me
  | 45 => some [(sF f a (fL' f) (fS f) :: fs, env, dc, me)]
  | 46 => (match fS f with
    | x :: S => xBr 0 b a 1 f fs env dc me x (0, 0, 0) S
    | _ => none)
  | 47 => (match fS f with
    | y :: x :: S => xBr 0 b a 1 f fs env dc me x y S
    | _ => none)
  | 48 => (match fS f with
    | y :: x :: S => xBr 1 b a 2 f fs env dc me x y S
    | _ => none)
  | 49 => xGet E.1 a b c f fs env dc me
  | 50 => xPutf E.1 E.2.2.2.2 a b c f fs env dc me
  | 51 => xAld E.1 51 f fs env dc me
  | 52 => xAld E.1 52 f fs env dc me
  | 53 => xAld E.1 53 f fs env dc me
  | 54 => xAld E.1 54 f fs env dc me
  | 55 => xAld E.1 55 f fs env dc me
  | 56 => xAst E.1 E.2.2.2.2 56 f fs env dc me
  | 57 => xAst E.1 E.2.2.2.2 57 f fs env dc me
  | 58 => xAst E.1 E.2.2.2.2 58 f fs env dc me
  | 59 => xAst E.1 E.2.2.2.2 59 f fs env dc me
  | 60 => xLen E.1 f fs env dc me
  | 61 => xRet res 0 a f fs env dc me
  | 62 => xRet res 1 0 f fs env dc me
  | 63 => xRetV res f fs env dc me
  | 64 => xRet res 2 0 f fs env dc me
  | 65 => xSw (pgT (fM f)).2[a]? f fs env dc me
  | 66 => xPush f fs env dc me (2, 0, (a : Int))
  | 67 => xCall E 67 a f fs env dc me
  | 68 => xCall E 68 a f fs env dc me
  | _ => none
def note (f : Fr) (fs : List Fr) (env : List Iv) (dc : Dc) (me : Mo) (n : An) : Option (List St) := match mkLb f env me n with
  | none => none
  | some b => if wfLb env b then (if (lD b).isEmpty then some [lbSt f fs env dc b 0 (fB f), ((fM f, fI' f, fA f + 1, fC f, fO f, fL' f, fS f, b :: fB f) :: fs, env, dc, me)]
    else if Nat.beq (lI b) (fI' f) && arr true env dc me f b then some [lbSt f fs env dc b (fA f + 1) (b :: fB f)] else none) else none
def stp2 (E : En) (res : Option (Nat × Iv)) (f : Fr) (fs : List Fr) (env : List Iv) (dc : Dc) (me : Mo) : Option (List St) := match (E.2.2.1 (fM f) (fI' f))[fA f]? with
  | some n => note f fs env dc me n
  | none => (match (pgT (fM f)).1[fI' f]? with
    | some mi => exec E res f fs env dc me mi
    | none => none)
def stp (E : En) (res : Option (Nat × Iv)) (s : St) : Option (List St) := match s with
  | ([], _) => none
  | (f :: fs, env, dc, me) => if Nat.beq (fA f) 0 then (match (fB f).find? fun b => Nat.beq (lI b) (fI' f) with
    | some b => if arr false env dc me f b then some [] else none
    | none => stp2 E res f fs env dc me) else stp2 E res f fs env dc me
def chk (E : En) (res : Option (Nat × Iv)) : Nat → St → Bool
  | 0, _ => false
  | n + 1, s => match stp E res s with
    | none => false
    | some ss => ss.all (chk E res n)
section CN
variable {E : En} {h0 : MH} {ρ : Nat → Int} {h : MH} {f : Fr} {fs : List Fr} {env : List Iv} {dc : Dc} {me : Mo} {ss : List St} {res : Option (Nat × Iv)}
theorem exec_of (hct : ∀ j ∈ E.2.2.2.1, CtOk E.1 (E.2.1 j)) (I : Inv E (Qct E.1 E.2.2.2.2 res h0) h0 ρ h (f :: fs, env, dc, me)) {mi : MI} (hi : (pgT (fM f)).1[fI' f]? = some mi) (hx : exec E res f fs env dc me mi = some ss) (kk : ∀ s ∈ ss, Sound E (Qct E.1 E.2.2.2.2 res h0) h0 s) : Top (Qct E.1 E.2.2.2.2 res h0) ρ f fs h := by
  have top : Ask (Qct E.1 E.2.2.2.2 res h0) ρ f fs h mi → Top (Qct E.1 E.2.2.2.2 res h0) ρ f fs h := fun k => so1 (pgT_ok0 (fM f) I.2.2.2.2.2.1.1) hi k
  obtain ⟨pc, op, z, a, b, c⟩ := mi
  have const : ∀ (t : Nat) (w : Int), cv ρ (t, 0, w) = (t, w) := fun t w => by
    unfold cv
    show (t, ρ 0 + w) = (t, w)
    rw [I.1.2.1, Int.zero_add]
  match op, hi, hx, top with
  | 1, hi, hx, top =>
    have k := xPush_of I (v := (0, 0, z)) I.1.1 hx kk
    rw [const] at k
    exact top k
  | 2, hi, hx, top =>
    have k := xPush_of I (v := (1, 0, z)) I.1.1 hx kk
    rw [const] at k
    exact top k
  | 66, hi, hx, top =>
    have k := xPush_of I (v := (2, 0, (a : Int))) I.1.1 hx kk
    rw [const] at k
    exact top k
  | 3, hi, hx, top => exact top (xLd_of I hx kk)
  | 4, hi, hx, top => exact top (xLd_of I hx kk)
  | 5, hi, hx, top => exact top (xLd_of I hx kk)
  | 7, hi, hx, top => exact top (xSto_of I (Or.inl rfl) hx kk)
  | 8, hi, hx, top => exact top (xSto_of I (Or.inr (Or.inl rfl)) hx kk)
  | 9, hi, hx, top => exact top (xSto_of I (Or.inr (Or.inr rfl)) hx kk)
  | 11, hi, hx, top => exact top (xInc_of I hx kk)
  | 12, hi, hx, top => exact top (xBin_of I 12 hx kk)
  | 13, hi, hx, top => exact top (xBin_of I 13 hx kk)
  | 14, hi, hx, top => exact top (xBin_of I 14 hx kk)
  | 16, hi, hx, top => exact top (xBin_of I 16 hx kk)
  | 17, hi, hx, top => exact top (xBin_of I 17 hx kk)
  | 18, hi, hx, top => exact top (xBin_of I 18 hx kk)
  | 20, hi, hx, top => exact top (xBin_of I 20 hx kk)
  | 21, hi, hx, top => exact top (xBin_of I 21 hx kk)
  | 22, hi, hx, top => exact top (xBin_of I 22 hx kk)
  | 23, hi, hx, top => exact top (xBin_of I 23 hx kk)
  | 24, hi, hx, top => exact top (xBin_of I 24 hx kk)
  | 25, hi, hx, top => exact top (xBin_of I 25 hx kk)
  | 26, hi, hx, top => exact top (xBin_of I 26 hx kk)
  | 27, hi, hx, top => exact top (xBin_of I 27 hx kk)
  | 28, hi, hx, top => exact top (xBin_of I 28 hx kk)
  | 29, hi, hx, top => exact top (xBin_of I 29 hx kk)
  | 30, hi, hx, top => exact top (xBin_of I 30 hx kk)
  | 31, hi, hx, top => exact top (xBin_of I 31 hx kk)
  | 32, hi, hx, top => exact top (xBin_of I 32 hx kk)
  | 33, hi, hx, top => exact top (xBin_of I 33 hx kk)
  | 69, hi, hx, top => exact top (xBin_of I 69 hx kk)
  | 70, hi, hx, top => exact top (xBin_of I 70 hx kk)
  | 71, hi, hx, top => exact top (xBin_of I 71 hx kk)
  | 72, hi, hx, top => exact top (xBin_of I 72 hx kk)
  | 15, hi, hx, top => exact top (xUn_of I 15 hx kk)
  | 19, hi, hx, top => exact top (xUn_of I 19 hx kk)
  | 35, hi, hx, top => exact top (xUn_of I 35 hx kk)
  | 36, hi, hx, top => exact top (xUn_of I 36 hx kk)
  | 37, hi, hx, top => exact top (xUn_of I 37 hx kk)
  | 38, hi, hx, top => exact top (xUn_of I 38 hx kk)
  | 39, hi, hx, top => exact top (xStk_of I 39 hx kk)
  | 40, hi, hx, top => exact top (xStk_of I 40 hx kk)
  | 41, hi, hx, top => exact top (xStk_of I 41 hx kk)
  | 42, hi, hx, top => exact top (xStk_of I 42 hx kk)
  | 43, hi, hx, top => exact top (xStk_of I 43 hx kk)
  | 44, hi, hx, top => exact top (xStk_of I 44 hx kk)
  | 45, hi, hx, top =>
    cases hx
    exact top (goSame I I.L I.S (one kk))
  | 46, hi, hx, top =>
    replace hx : (match fS f with
      | x :: S => xBr 0 b a 1 f fs env dc me x (0, 0, 0) S
      | _ => none) = some ss := hx
    refine top ?_
    unfold Ask
    have hS0 := I.S
    cases eS : fS f with
    | nil => rw [eS] at hx; cases hx
    | cons x S =>
      rw [eS] at hx hS0
      have k := xBr_of I (tl_lt rfl hS0).2 hx kk
      have e0 : vv ρ (0, 0, 0) = 0 := by
        show ρ 0 + 0 = 0
        rw [I.1.2.1]
        rfl
      rw [e0] at k
      exact ⟨k.1, k.2.2.1, k.2.2.2⟩
  | 47, hi, hx, top =>
    replace hx : (match fS f with
      | y :: x :: S => xBr 0 b a 1 f fs env dc me x y S
      | _ => none) = some ss := hx
    refine top ?_
    unfold Ask
    have hS0 := I.S
    cases eS : fS f with
    | nil => rw [eS] at hx; cases hx
    | cons y S1 =>
      cases S1 with
      | nil => rw [eS] at hx; cases hx
      | cons x S =>
        rw [eS] at hx hS0
        have k := xBr_of I (tl_lt rfl (tl_lt rfl hS0).2).2 hx kk
        exact ⟨k.1, k.2.1, k.2.2.1, k.2.2.2⟩
  | 48, hi, hx, top =>
    replace hx : (match fS f with
      | y :: x :: S => xBr 1 b a 2 f fs env dc me x y S
      | _ => none) = some ss := hx
    refine top ?_
    unfold Ask
    have hS0 := I.S
    cases eS : fS f with
    | nil => rw [eS] at hx; cases hx
    | cons y S1 =>
      cases S1 with
      | nil => rw [eS] at hx; cases hx
      | cons x S =>
        rw [eS] at hx hS0
        have k := xBr_of I (tl_lt rfl (tl_lt rfl hS0).2).2 hx kk
        exact ⟨k.1, k.2.1, k.2.2.1, k.2.2.2⟩
  | 49, hi, hx, top => exact top (xGet_of I hx kk)
  | 50, hi, hx, top => exact top (xPutf_of I hx kk)
  | 51, hi, hx, top => exact top (xAld_of I 51 hx kk)
  | 52, hi, hx, top => exact top (xAld_of I 52 hx kk)
  | 53, hi, hx, top => exact top (xAld_of I 53 hx kk)
  | 54, hi, hx, top => exact top (xAld_of I 54 hx kk)
  | 55, hi, hx, top => exact top (xAld_of I 55 hx kk)
  | 56, hi, hx, top => exact top (xAst_of I 56 (by decide) hx kk)
  | 57, hi, hx, top => exact top (xAst_of I 57 (by decide) hx kk)
  | 58, hi, hx, top => exact top (xAst_of I 58 (by decide) hx kk)
  | 59, hi, hx, top => exact top (xAst_of I 59 (by decide) hx kk)
  | 60, hi, hx, top => exact top (xLen_of I hx kk)
  | 61, hi, hx, top =>
    obtain ⟨v, e1, e2, e3, e4, e5⟩ := xRet_of I hx kk
    refine top ?_
    unfold Ask
    rw [e1]
    exact ⟨e2, e3, e4, e5⟩
  | 62, hi, hx, top =>
    obtain ⟨v, e1, e2, e3, e4, e5⟩ := xRet_of I hx kk
    refine top ?_
    unfold Ask
    rw [e1]
    exact ⟨e2, e5⟩
  | 63, hi, hx, top => exact top (xRetV_of I hx kk)
  | 64, hi, hx, top =>
    obtain ⟨v, e1, e2, e3, e4, e5⟩ := xRet_of I hx kk
    refine top ?_
    unfold Ask
    rw [e1]
    exact ⟨e2, e5⟩
  | 65, hi, hx, top => exact top (xSw_of I hx kk)
  | 67, hi, hx, top => exact xCall_of hct I (Or.inl rfl) hi hx kk
  | 68, hi, hx, top => exact xCall_of hct I (Or.inr rfl) hi hx kk
  | 0, hi, hx, top => cases hx
  | 6, hi, hx, top => cases hx
  | 10, hi, hx, top => cases hx
  | 34, hi, hx, top => cases hx
  | n + 73, hi, hx, top => cases hx
theorem stp2_of (hct : ∀ j ∈ E.2.2.2.1, CtOk E.1 (E.2.1 j)) (I : Inv E (Qct E.1 E.2.2.2.2 res h0) h0 ρ h (f :: fs, env, dc, me)) (hx : stp2 E res f fs env dc me = some ss) (kk : ∀ s ∈ ss, Sound E (Qct E.1 E.2.2.2.2 res h0) h0 s) : Top (Qct E.1 E.2.2.2.2 res h0) ρ f fs h := by
  unfold stp2 at hx
  split at hx
  · next n hn =>
    unfold note at hx
    split at hx
    · cases hx
    · next b hb =>
      split at hx
      · next w =>
        split at hx
        · next d =>
          cases hx
          exact join_of I w (List.isEmpty_iff.mp d) rfl (kk _ List.mem_cons_self) (kk _ (List.mem_cons_of_mem _ List.mem_cons_self))
        · next d =>
          split at hx
          · next q =>
            cases hx
            have q := and2 q
            exact loop_of I w (fun e => d (List.isEmpty_iff.mpr e)) (Nat.eq_of_beq_eq_true q.1) q.2 (one kk)
          · cases hx
      · cases hx
  · split at hx
    · next mi hmi => exact exec_of hct I hmi hx kk
    · cases hx
theorem stp_of (hct : ∀ j ∈ E.2.2.2.1, CtOk E.1 (E.2.1 j)) {s : St} (hx : stp E res s = some ss) (kk : ∀ s ∈ ss, Sound E (Qct E.1 E.2.2.2.2 res h0) h0 s) : Sound E (Qct E.1 E.2.2.2.2 res h0) h0 s := by
  intro ρ h I
  obtain ⟨fr, env, dc, me⟩ := s
  cases fr with
  | nil => exact trivial
  | cons f fs =>
    show Top _ ρ f fs h
    replace hx : (if Nat.beq (fA f) 0 then (match (fB f).find? fun b => Nat.beq (lI b) (fI' f) with
      | some b => if arr false env dc me f b then some [] else none
      | none => stp2 E res f fs env dc me) else stp2 E res f fs env dc me) = some ss := hx
    split at hx
    · split at hx
      · next b hb =>
        split at hx
        · next ha => exact arr_of I (List.mem_of_find?_eq_some hb) (Nat.eq_of_beq_eq_true (show Nat.beq (lI b) (fI' f) = true from List.find?_some (p := fun b => Nat.beq (lI b) (fI' f)) hb)) ha
        · cases hx
      · exact stp2_of hct I hx kk
    · exact stp2_of hct I hx kk
theorem chk_of (hct : ∀ j ∈ E.2.2.2.1, CtOk E.1 (E.2.1 j)) : ∀ (n : Nat) (s : St), chk E res n s = true → Sound E (Qct E.1 E.2.2.2.2 res h0) h0 s
  | 0, s, hc => by cases hc
  | n + 1, s, hc => by
    unfold chk at hc
    split at hc
    · cases hc
    · next ss hs => exact stp_of hct hs fun t ht => chk_of hct n t (List.all_eq_true.mp hc t ht)
end CN
def inVs : Nat → List (Nat × Iv) → List Vl
  | _, [] => []
  | k, q :: r => (q.1, k, 0) :: inVs (k + 1) r
def chM (E : En) (n : Nat) (c : Ct) : Bool := let vs := inVs 1 c.2.1
  Nat.beq (pcA (pgT c.1) 0) 0 && ((Nat.beq (kT c.1).1 0 || Nat.beq (kT c.1).1 1) && (Nat.ble (wid vs) (kT c.1).2.2.2.1 && chk E c.2.2.1 n ([(c.1, 0, 0, c.2.2.2.2.1, c.2.2.2.2.2, aargs 0 vs, [], [])], (0, 0, 0) :: c.2.1.map (·.2), [], [])))
theorem inVs_at {T : Tc} {ρ : Nat → Int} : ∀ (k : Nat) (ps : List (Nat × Iv)) (As : List MV), argsM T ps As → (∀ (j : Nat) (v : MV), As[j]? = some v → ρ (k + j) = v.2) → cS ρ (inVs k ps) = As
  | _, [], [], _, _ => rfl
  | k, q :: r, v :: s, hA, hr => by
    have h0 := hr 0 v rfl
    have ih := inVs_at (ρ := ρ) (k + 1) r s hA.2.2 fun j w hw => by
      have := hr (j + 1) w hw
      rw [← this]
      congr 1
      omega
    show (q.1, ρ k + 0) :: cS ρ (inVs (k + 1) r) = v :: s
    rw [ih, ← hA.1, Int.add_zero]
    rw [Nat.add_zero] at h0
    rw [h0]
  | _, [], _ :: _, hA, _ => hA.elim
  | _, _ :: _, [], hA, _ => hA.elim
theorem inVs_lt : ∀ (k : Nat) (ps : List (Nat × Iv)), ∀ v ∈ inVs k ps, v.2.1 < k + ps.length
  | _, [], v, hv => absurd hv List.not_mem_nil
  | k, q :: r, v, hv => (List.mem_cons.mp hv).elim (fun e => by
    rw [e]
    show k < k + (r.length + 1)
    omega) fun m => by
      have := inVs_lt (k + 1) r v m
      show _ < k + (r.length + 1)
      omega
theorem argsM_at {T : Tc} : ∀ {ps : List (Nat × Iv)} {As : List MV}, argsM T ps As → As.length = ps.length ∧ ∀ (j : Nat) (e : Iv) (v : MV), (ps.map (·.2))[j]? = some e → As[j]? = some v → ivOk T e v.2
  | [], [], _ => ⟨rfl, fun j e v h => by simp at h⟩
  | q :: r, v :: s, h => by
    have ih := argsM_at h.2.2
    refine ⟨by rw [List.length_cons, List.length_cons, ih.1], fun j e w h1 h2 => ?_⟩
    cases j with
    | zero =>
      cases h1
      cases h2
      exact h.2.1
    | succ j => exact ih.2 j e w h1 h2
  | [], _ :: _, h => h.elim
  | _ :: _, [], h => h.elim
/-- the contract holds, if the check says so -/
theorem chM_of {E : En} {n : Nat} {c : Ct} (hW : E.2.2.2.2 = c.2.2.2.1) (hct : ∀ j ∈ E.2.2.2.1, CtOk E.1 (E.2.1 j)) (hc : chM E n c = true) : CtOk E.1 c := by
  intro q hq As h hA g
  have hc1 := and2 hc
  have hc2 := and2 hc1.2
  have hc3 := and2 hc2.2
  have ek : kT c.1 = q.1 := by unfold kT; rw [hq]
  rw [ek] at hc2 hc3
  have mf := mtab_ok q (List.mem_of_getElem? hq)
  have am := argsM_at hA
  let ρ : Nat → Int := fun b => match b with
    | 0 => 0
    | b + 1 => match As[b]? with
      | some v => v.2
      | none => 0
  have hAs : cS ρ (inVs 1 c.2.1) = As := inVs_at 1 c.2.1 As hA fun j v hv => by
    show ρ (1 + j) = v.2
    rw [Nat.add_comm]
    show (match As[j]? with
      | some v => v.2
      | none => 0) = v.2
    rw [hv]
  have hl : ((0, 0, 0) :: c.2.1.map (·.2) : List Iv).length = c.2.1.length + 1 := by
    rw [List.length_cons, List.length_map]
  have hlt : ∀ v ∈ inVs 1 c.2.1, v.2.1 < ((0, 0, 0) :: c.2.1.map (·.2) : List Iv).length := fun v hv => by
    have := inVs_lt 1 c.2.1 v hv
    rw [hl]
    omega
  have S := chk_of (h0 := h) hct n _ hc3.2
  have k := S ρ h ⟨⟨by rw [hl]; omega, rfl, fun b e he => by
    cases b with
    | zero =>
      cases he
      exact ⟨Int.le_refl _, Int.le_refl _, fun q => absurd rfl q⟩
    | succ b =>
      have he : (c.2.1.map (·.2))[b]? = some e := he
      have lb := (List.getElem?_eq_some_iff.mp he).1
      rw [List.length_map] at lb
      have hv := List.getElem?_eq_getElem (l := As) (i := b) (by omega)
      show ivOk E.1 e (match As[b]? with
        | some v => v.2
        | none => 0)
      rw [hv]
      exact am.2 b e _ he hv⟩, DcOk.nil _ _, ⟨fun q hq => absurd hq List.not_mem_nil, fun q hq => absurd hq List.not_mem_nil⟩, g, HRel.refl _ _, ⟨⟨mtab_lt hq, aargs_lt hlt, fun v hv => absurd hv List.not_mem_nil, fun b hb => absurd hb List.not_mem_nil⟩, trivial⟩⟩
  have k : MW (kT c.1) (Qct E.1 E.2.2.2.2 c.2.2.1 h) c.2.2.2.2.1 c.2.2.2.2.2 (pcA (pgT c.1) 0) (cL ρ (aargs 0 (inVs 1 c.2.1))) [] h := k
  rw [← aargs_of, hAs, Nat.eq_of_beq_eq_true hc1.1, ek, hW] at k
  refine MCal.ofMW ?_ ⟨mf.2.1, mf.2.2.1⟩ ?_ k
  · have := hc2.1
    rw [Bool.or_eq_true] at this
    rcases this with e | e
    · exact Or.inl (Nat.eq_of_beq_eq_true e)
    · exact Or.inr (Or.inl (Nat.eq_of_beq_eq_true e))
  · have : mwid (cS ρ (inVs 1 c.2.1)) = wid (inVs 1 c.2.1) := wid_of ρ _
    rw [← hAs, this]
    exact Nat.le_of_ble_eq_true hc3.1
