/-! calls, and the step of all -/
def spl : Nat → List Vl → Option (List Vl × List Vl)
  | 0, S => some ([], S)
  | _ + 1, [] => none
  | n + 1, v :: S => (spl n S).map fun q => (q.1 ++ [v], q.2)
theorem spl_of : ∀ {n : Nat} {S as r : List Vl}, spl n S = some (as, r) → S = as.reverse ++ r ∧ as.length = n
  | 0, S, as, r, h => by cases h; exact ⟨rfl, rfl⟩
  | _ + 1, [], as, r, h => by cases h
  | n + 1, v :: S, as, r, h => by
    unfold spl at h
    cases e : spl n S with
    | none => rw [e] at h; cases h
    | some q =>
      rw [e] at h
      cases h
      obtain ⟨h1, h2⟩ := spl_of (as := q.1) (r := q.2) e
      refine ⟨?_, by rw [List.length_append, h2]; rfl⟩
      rw [List.reverse_append, h1]
      rfl
def aargs : Nat → List Vl → Lv
  | _, [] => []
  | i, v :: r => (i, v) :: aargs (if Nat.beq (vcat v) 2 then i + 2 else i + 1) r
theorem aargs_of (ρ : Nat → Int) : ∀ (i : Nat) (as : List Vl), margs i (cS ρ as) = cL ρ (aargs i as)
  | _, [] => rfl
  | i, v :: r => by
    show (i, cv ρ v) :: margs (if mcat (cv ρ v) = 2 then i + 2 else i + 1) (cS ρ r) = (i, cv ρ v) :: cL ρ (aargs (if Nat.beq (vcat v) 2 then i + 2 else i + 1) r)
    rw [aargs_of ρ _ r]
    have : (if mcat (cv ρ v) = 2 then i + 2 else i + 1) = (if Nat.beq (vcat v) 2 then i + 2 else i + 1) := by
      rw [vcat_cv]
      by_cases q : vcat v = 2
      · rw [if_pos q, q]; rfl
      · rw [if_neg q, if_neg fun z => q (Nat.eq_of_beq_eq_true z)]
    rw [this]
theorem aargs_lt {n : Nat} : ∀ {i : Nat} {as : List Vl}, (∀ v ∈ as, v.2.1 < n) → ∀ q ∈ aargs i as, q.2.2.1 < n
  | _, [], _, q, hq => absurd hq List.not_mem_nil
  | i, v :: r, h, q, hq => (List.mem_cons.mp hq).elim (fun e => e ▸ h v List.mem_cons_self) (aargs_lt (fun u hu => h u (List.mem_cons_of_mem _ hu)) q)
def argsB (env : List Iv) : List (Nat × Iv) → List Vl → Bool
  | [], [] => true
  | q :: r, v :: s => Nat.beq v.1 q.1 && ((match ivOf env v with
    | some d => ivIn d q.2
    | none => false) && argsB env r s)
  | _, _ => false
def argsM (T : Tc) : List (Nat × Iv) → List MV → Prop
  | [], [] => True
  | q :: r, v :: s => v.1 = q.1 ∧ ivOk T q.2 v.2 ∧ argsM T r s
  | _, _ => False
theorem argsB_of {T : Tc} {ρ : Nat → Int} {env : List Iv} (R : RelE T ρ env) : ∀ {ps : List (Nat × Iv)} {as : List Vl}, argsB env ps as = true → argsM T ps (cS ρ as)
  | [], [], _ => trivial
  | q :: r, v :: s, h => by
    unfold argsB at h
    rw [Bool.and_eq_true, Bool.and_eq_true] at h
    obtain ⟨h1, h2, h3⟩ := h
    refine ⟨Nat.eq_of_beq_eq_true h1, ?_, argsB_of R h3⟩
    split at h2
    · next d hd => exact ivIn_of h2 (ivOf_of R hd)
    · cases h2
  | [], v :: s, h => by cases h
  | q :: r, [], h => by cases h
/-- contract j holds -/
def CtOk (T : Tc) (c : Ct) : Prop := ∀ q, mtab[c.1]? = some q → ∀ (As : List MV) (h : MH), argsM T c.2.1 As → GH T h → MCal q.1 q.2.1 c.2.2.2.2.1 c.2.2.2.2.2 As h (Qct T c.2.2.2.1 c.2.2.1 h)
def fitB (K K' : mK) : Bool := Nat.ble (K'.2.2.2.2.2.1 + 1) K.2.2.2.2.2.1 && (Nat.ble (8 + (K'.2.2.2.1 + 11) + K'.2.2.2.2.2.2) K.2.2.2.2.2.2 && (Nat.beq K.1 1 || !(Nat.beq K'.1 1)))
theorem fitB_of {K K' : mK} (h : fitB K K' = true) : mFit K K' ∧ (K.1 ≠ 1 → K'.1 ≠ 1) := by
  unfold fitB at h
  rw [Bool.and_eq_true, Bool.and_eq_true, Bool.or_eq_true] at h
  obtain ⟨h1, h2, h3⟩ := h
  refine ⟨⟨Nat.le_of_ble_eq_true h1, Nat.le_of_ble_eq_true h2⟩, fun n => ?_⟩
  rcases h3 with h3 | h3
  · exact absurd (Nat.eq_of_beq_eq_true h3) n
  · intro e
    rw [e] at h3
    cases h3
/-- the caller, behind the call -/
def bhd (f : Fr) (S : List Vl) (mc ms : Nat) : Fr := (fM f, fI' f + 1, 0, mc, ms, fL' f, S, fB f)
def xInl (a : Nat) (q : MR) (as rest : List Vl) (f : Fr) (fs : List Fr) (env : List Iv) (dc : Dc) (me : Mo) : Option (List St) :=
  if Nat.ble (wid as) q.1.2.2.2.1 && ((Nat.beq q.1.1 0 || Nat.beq q.1.1 1) && (Nat.beq (pcA (pgT a) 0) 0 && Nat.blt a 821)) then some [((a, 0, 0, 0, 0, aargs 0 as, [], []) :: bhd f rest (fC f) (fO f) :: fs, env, dc, me)] else none
/-- a key of a cell that does not change -/
def keepC (n0 : Nat) (W : List (Nat × Nat)) (env : List Iv) (k : Nat × Int) : Bool := match ivOf env (0, k.1, k.2) with
  | some d => decide (0 ≤ d.1) && (decide (d.2.1 < (n0 : Int)) && W.all fun w => decide (d.2.1 < (w.1 : Int)) || decide ((w.2 : Int) < d.1))
  | none => false
theorem keepC_of {T : Tc} {ρ : Nat → Int} {env : List Iv} (R : RelE T ρ env) {n0 : Nat} {W : List (Nat × Nat)} {k : Nat × Int} (h : keepC n0 W env k = true) : kv ρ k < n0 ∧ inR W (kv ρ k) = false := by
  unfold keepC at h
  split at h
  · next d hd =>
    have kd := ivOf_of R hd
    have kd1 : d.1 ≤ ρ k.1 + k.2 := kd.1
    have kd2 : ρ k.1 + k.2 ≤ d.2.1 := kd.2.1
    rw [Bool.and_eq_true, Bool.and_eq_true] at h
    have z1 := of_decide_eq_true h.1
    have z2 := of_decide_eq_true h.2.1
    unfold kv
    refine ⟨by omega, ?_⟩
    cases e : inR W (ρ k.1 + k.2).toNat with
    | false => rfl
    | true =>
      obtain ⟨w, w1, w2, w3⟩ := inR_of.mp e
      have := List.all_eq_true.mp h.2.2 w w1
      rw [Bool.or_eq_true] at this
      rcases this with z | z
      · have z := of_decide_eq_true z
        omega
      · have z := of_decide_eq_true z
        omega
  · cases h
def xCon (E : En) (a j : Nat) (as rest : List Vl) (f : Fr) (fs : List Fr) (env : List Iv) (dc : Dc) (me : Mo) : Option (List St) :=
  let c := E.2.1 j
  if Nat.beq c.1 a && (E.2.2.2.1.contains j && (argsB env c.2.1 as && (subW c.2.2.2.1 E.2.2.2.2 && (Nat.ble c.2.2.2.2.1 (fC f) && Nat.ble c.2.2.2.2.2 (fO f))))) then
    (let me' := me.filter fun q => keepC E.1.2.2 c.2.2.2.1 env q.1
    match c.2.2.1 with
    | none => some [(bhd f rest (fC f - c.2.2.2.2.1) (fO f - c.2.2.2.2.2) :: fs, env, dc, me')]
    | some r => some [(bhd f ((r.1, env.length, 0) :: rest) (fC f - c.2.2.2.2.1) (fO f - c.2.2.2.2.2) :: fs, env ++ [r.2], dc, me')])
  else none
def rcvB (T : Tc) (env : List Iv) (ci : Nat) (as : List Vl) : Bool := match as with
  | v :: _ => Nat.beq v.1 2 && (match ivOf env v with
    | some e => (match rcls T e with
      | some k => Nat.beq (T.2.1 k).1 (16 + ci)
      | none => false)
    | none => false)
  | [] => false
def rvB (E : En) (env : List Iv) (op : Nat) (q : MR) (as : List Vl) (m : Nat) : Bool := if Nat.beq op 67 then Nat.beq q.2.2.2.2 0 && rcvB E.1 env q.2.2.1 as else Nat.beq q.2.2.2.2 1 && Nat.beq q.2.2.1 (ownT m)
set_option maxRecDepth 100000 in
theorem mtab_len : mtab.length = 821 := by decide +kernel
theorem mtab_lt {a : Nat} {q : MR} (h : mtab[a]? = some q) : a < 821 := by
  have := (List.getElem?_eq_some_iff.mp h).1
  rw [mtab_len] at this
  exact this
/-- the contract by which a method is called; 0: none, it is walked -/
def pickC (E : En) (env : List Iv) (a : Nat) (as : List Vl) : Nat := match E.2.2.2.1.find? fun j => Nat.beq (E.2.1 j).1 a && argsB env (E.2.1 j).2.1 as with
  | some j => j + 1
  | none => 0
def xCall (E : En) (op a : Nat) (f : Fr) (fs : List Fr) (env : List Iv) (dc : Dc) (me : Mo) : Option (List St) := match mtab[a]? with
  | some q => (match spl (q.2.2.2.1 + (if Nat.beq op 67 then 1 else 0)) (fS f) with
    | some p => if fitB (kT (fM f)) q.1 && (Nat.ble (wid p.2) 8 && rvB E env op q p.1 (fM f)) then
        (match pickC E env a p.1 with
        | 0 => xInl a q p.1 p.2 f fs env dc me
        | j + 1 => xCon E a j p.1 p.2 f fs env dc me) else none
    | none => none)
  | none => none
section CM
variable {E : En} {Q0 : MO → MH → Prop} {h0 : MH} {ρ : Nat → Int} {h : MH} {f : Fr} {fs : List Fr} {env : List Iv} {dc : Dc} {me : Mo} {ss : List St} {pc : Nat} {z : Int} {a b c : Nat}
theorem FrsOk_bhd (F : FrsOk E Q0 h0 ρ env.length (f :: fs)) {S : List Vl} (hS : ∀ v ∈ S, v.2.1 < env.length) {mc ms : Nat} : FrsOk E Q0 h0 ρ env.length (bhd f S mc ms :: fs) := ⟨⟨F.1.1, F.1.2.1, hS, F.1.2.2.2⟩, F.2⟩
/-- what a call needs: it comes back as Qr' says, and from there it goes well -/
theorem call_of (I : Inv E Q0 h0 ρ h (f :: fs, env, dc, me)) {op : Nat} (ho : op = 67 ∨ op = 68) (hi : (pgT (fM f)).1[fI' f]? = some (pc, op, z, a, b, c)) {q : MR} (hq : mtab[a]? = some q) {as rest : List Vl} (hs : spl (q.2.2.2.1 + (if Nat.beq op 67 then 1 else 0)) (fS f) = some (as, rest)) (hf : fitB (kT (fM f)) q.1 = true) (hw : wid rest ≤ 8) (hr : rvB E env op q as (fM f) = true) {Qr' : MO → MH → Prop} {mc' ms' : Nat} (hmc : mc' ≤ fC f) (hms : ms' ≤ fO f) (hM : MCal q.1 q.2.1 mc' ms' (cS ρ as) h Qr') (kk : ∀ (r : MO) (h' : MH), Qr' r h' → (r.1 = 0 → MW (kT (fM f)) (SemK Q0 ρ fs) (fC f - mc') (fO f - ms') (pcA (pgT (fM f)) (fI' f + 1)) (cL ρ (fL' f)) (cS ρ rest) h') ∧ (r.1 = 1 → MW (kT (fM f)) (SemK Q0 ρ fs) (fC f - mc') (fO f - ms') (pcA (pgT (fM f)) (fI' f + 1)) (cL ρ (fL' f)) (r.2 :: cS ρ rest) h')) : Top Q0 ρ f fs h := by
  have ok := okP_at (pgT_ok0 (fM f) I.2.2.2.2.2.1.1) hi
  have hp : pcA (pgT (fM f)) (fI' f) = pc := by
    unfold pcA
    rw [hi]
  obtain ⟨hS, hlen⟩ := spl_of hs
  obtain ⟨f1, f2⟩ := fitB_of hf
  have mf := mtab_ok q (List.mem_of_getElem? hq)
  obtain ⟨g1, g2, g3, g4, g5, g6⟩ := mf
  unfold Top
  rw [hp, hS]
  have eS : cS ρ (as.reverse ++ rest) = (cS ρ as).reverse ++ cS ρ rest := by
    unfold cS
    rw [List.map_append, List.map_reverse]
  rw [eS]
  rcases ho with e | e <;> subst e
  · have o := and2 ok.1
    have d := okD_of o.1
    obtain ⟨r', hr', hl⟩ := MT_ok (ownT (fM f)) (z.toNat, a) (List.contains_iff_mem.mp o.2)
    have hr' : mtab[a]? = some r' := hr'
    rw [hq] at hr'
    cases hr'
    rw [← ok.2] at hl
    have hr : (Nat.beq q.2.2.2.2 0 && rcvB E.1 env q.2.2.1 as) = true := hr
    have hr := and2 hr
    obtain ⟨s1, s2, T', N', s3⟩ := g6 (Nat.eq_of_beq_eq_true hr.1)
    have d2 : pc + 3 = pcA (pgT (fM f)) (fI' f + 1) := d.2
    rw [← d2] at kk
    have hrcv := hr.2
    unfold rcvB at hrcv
    cases as with
    | nil => cases hrcv
    | cons v as =>
      replace hrcv : (Nat.beq v.1 2 && (match ivOf env v with
        | some e => (match rcls E.1 e with
          | some k => Nat.beq (E.1.2.1 k).1 (16 + q.2.2.1)
          | none => false)
        | none => false)) = true := hrcv
      have hrcv := and2 hrcv
      split at hrcv
      · next e he =>
        split at hrcv
        · next k hk =>
          have kr := rcls_of hk (ivOf_of I.1 he)
          have cc := I.cell kr
          have ev : cv ρ v = (2, ρ v.2.1 + v.2.2) := by
            unfold cv
            rw [Nat.eq_of_beq_eq_true hrcv.1]
          have hM : MCal q.1 q.2.1 mc' ms' ((2, ρ v.2.1 + v.2.2) :: cS ρ as) h Qr' := by
            rw [← ev]
            exact hM
          have hn : q.2.2.2.1 = (cS ρ as).length := by
            have : (v :: as).length = q.2.2.2.1 + 1 := hlen
            rw [List.length_cons] at this
            unfold cS
            rw [List.length_map]
            omega
          refine m_invokevirtual d.1 f2 g1 s3 cc.1 cc.2.1 (cc.2.2.1.trans (Nat.eq_of_beq_eq_true hrcv.2)) ⟨hl, s1, s2⟩ ⟨rfl, g4.1, g4.2.1, by rw [← hn]; exact g4.2.2⟩ f1 (by rw [wid_of]; exact hw) ?_ hmc hms hM kk
          show (cv ρ v :: cS ρ as).reverse ++ cS ρ rest = _
          rw [List.reverse_cons, ev, List.append_assoc]
          rfl
        · exact absurd hrcv.2 (by decide)
      · exact absurd hrcv.2 (by decide)
  · have o := and2 ok.1
    have d := okD_of o.1
    obtain ⟨r', hr', hl⟩ := MT_ok (ownT (fM f)) (z.toNat, a) (List.contains_iff_mem.mp o.2)
    have hr' : mtab[a]? = some r' := hr'
    rw [hq] at hr'
    cases hr'
    rw [← ok.2] at hl
    have hr : (Nat.beq q.2.2.2.2 1 && Nat.beq q.2.2.1 (ownT (fM f))) = true := hr
    have hr := and2 hr
    have d2 : pc + 3 = pcA (pgT (fM f)) (fI' f + 1) := d.2
    rw [← d2] at kk
    have hn : q.2.2.2.1 = (cS ρ as).length := by
      have : as.length = q.2.2.2.1 + 0 := hlen
      unfold cS
      rw [List.length_map]
      omega
    have hown : q.2.1.cls = (kT (fM f)).2.1 := by
      have ha : a < 821 := mtab_lt hq
      have ok2 := pgT_ok0 a ha
      unfold okP at ok2
      have ok3 := of_decide_eq_true (and2 ok2).2
      have e1 : kT a = q.1 := by unfold kT; rw [hq]
      have e2 : ownT a = q.2.2.1 := by unfold ownT; rw [hq]
      rw [g3, ok.2, ← Nat.eq_of_beq_eq_true hr.2, ← e2, ← ok3, e1]
    exact m_invokestatic d.1 f2 g1 ⟨hl, g5 (Nat.eq_of_beq_eq_true hr.1)⟩ ⟨hown, g4.1, g4.2.1, by rw [← hn]; exact g4.2.2⟩ f1 (by rw [wid_of]; exact hw) rfl hmc hms hM kk
theorem xCall_of (hct : ∀ j ∈ E.2.2.2.1, CtOk E.1 (E.2.1 j)) (I : Inv E Q0 h0 ρ h (f :: fs, env, dc, me)) {op : Nat} (ho : op = 67 ∨ op = 68) (hi : (pgT (fM f)).1[fI' f]? = some (pc, op, z, a, b, c)) (hx : xCall E op a f fs env dc me = some ss) (kk : ∀ s ∈ ss, Sound E Q0 h0 s) : Top Q0 ρ f fs h := by
  unfold xCall at hx
  cases hq : mtab[a]? with
  | none => rw [hq] at hx; cases hx
  | some q =>
    rw [hq] at hx
    replace hx : (match spl (q.2.2.2.1 + (if Nat.beq op 67 then 1 else 0)) (fS f) with
      | some p => if fitB (kT (fM f)) q.1 && (Nat.ble (wid p.2) 8 && rvB E env op q p.1 (fM f)) then
          (match pickC E env a p.1 with
          | 0 => xInl a q p.1 p.2 f fs env dc me
          | j + 1 => xCon E a j p.1 p.2 f fs env dc me) else none
      | none => none) = some ss := hx
    cases hs : spl (q.2.2.2.1 + (if Nat.beq op 67 then 1 else 0)) (fS f) with
    | none => rw [hs] at hx; cases hx
    | some p =>
      rw [hs] at hx
      obtain ⟨as, rest⟩ := p
      replace hx : (if fitB (kT (fM f)) q.1 && (Nat.ble (wid rest) 8 && rvB E env op q as (fM f)) then
          (match pickC E env a as with
          | 0 => xInl a q as rest f fs env dc me
          | j + 1 => xCon E a j as rest f fs env dc me) else none) = some ss := hx
      have hsp := spl_of hs
      have hS0 := I.S
      rw [hsp.1] at hS0
      have hrest : ∀ v ∈ rest, v.2.1 < env.length := fun v hv => hS0 v (List.mem_append_right _ hv)
      have has : ∀ v ∈ as, v.2.1 < env.length := fun v hv => hS0 v (List.mem_append_left _ (List.mem_reverse.mpr hv))
      split at hx
      · next qq =>
        have q1 := and2 qq
        have q2 := and2 q1.2
        have hw := Nat.le_of_ble_eq_true q2.1
        have mf := mtab_ok q (List.mem_of_getElem? hq)
        have e1 : kT a = q.1 := by unfold kT; rw [hq]
        generalize pickC E env a as = bb at hx
        cases bb with
        | zero =>
          replace hx : xInl a q as rest f fs env dc me = some ss := hx
          unfold xInl at hx
          split at hx
          · next w =>
            cases hx
            have w1 := and2 w
            have w2 := and2 w1.2
            have w3 := and2 w2.2
            have k0 := one kk
            have k := k0 ρ h ⟨I.1, I.2.1, I.2.2.1, I.2.2.2.1, I.2.2.2.2.1, ⟨⟨blt_of w3.2, aargs_lt has, fun v hv => absurd hv List.not_mem_nil, fun b hb => absurd hb List.not_mem_nil⟩, FrsOk_bhd I.2.2.2.2.2 hrest⟩⟩
            have k : MW (kT a) (SemK Q0 ρ (bhd f rest (fC f) (fO f) :: fs)) 0 0 (pcA (pgT a) 0) (cL ρ (aargs 0 as)) [] h := k
            rw [Nat.eq_of_beq_eq_true w3.1, ← aargs_of, e1] at k
            refine call_of I ho hi hq hs q1.1 hw q2.2 (Nat.zero_le _) (Nat.zero_le _) (Qr' := SemK Q0 ρ (bhd f rest (fC f) (fO f) :: fs)) (MCal.ofMW ?_ ⟨mf.2.1, mf.2.2.1⟩ ?_ k) fun r h' s => s
            · have := w2.1
              rw [Bool.or_eq_true] at this
              rcases this with e | e
              · exact Or.inl (Nat.eq_of_beq_eq_true e)
              · exact Or.inr (Or.inl (Nat.eq_of_beq_eq_true e))
            · have : mwid (cS ρ as) = wid as := wid_of ρ as
              rw [this]
              exact Nat.le_of_ble_eq_true w1.1
          · cases hx
        | succ j =>
          replace hx : xCon E a j as rest f fs env dc me = some ss := hx
          unfold xCon at hx
          generalize hcj : E.2.1 j = cj at hx
          replace hx : (if Nat.beq cj.1 a && (E.2.2.2.1.contains j && (argsB env cj.2.1 as && (subW cj.2.2.2.1 E.2.2.2.2 && (Nat.ble cj.2.2.2.2.1 (fC f) && Nat.ble cj.2.2.2.2.2 (fO f))))) then
            (match cj.2.2.1 with
            | none => some [(bhd f rest (fC f - cj.2.2.2.2.1) (fO f - cj.2.2.2.2.2) :: fs, env, dc, me.filter fun q => keepC E.1.2.2 cj.2.2.2.1 env q.1)]
            | some r => some [(bhd f ((r.1, env.length, 0) :: rest) (fC f - cj.2.2.2.2.1) (fO f - cj.2.2.2.2.2) :: fs, env ++ [r.2], dc, me.filter fun q => keepC E.1.2.2 cj.2.2.2.1 env q.1)])
            else none) = some ss := hx
          split at hx
          · next w =>
            have w1 := and2 w
            have w2 := and2 w1.2
            have w3 := and2 w2.2
            have w4 := and2 w3.2
            have w5 := and2 w4.2
            have ea := Nat.eq_of_beq_eq_true w1.1
            have ok := hct j (List.contains_iff_mem.mp w2.1)
            rw [hcj] at ok
            have hM := ok q (by rw [ea]; exact hq) (cS ρ as) h (argsB_of I.1 w3.1) I.2.2.2.1
            have keep : ∀ {h' : MH}, HRel cj.2.2.2.1 h h' → (∀ p ∈ me.filter (fun q => keepC E.1.2.2 cj.2.2.2.1 env q.1), (p.1.1 < env.length ∧ p.2.1.1 < env.length ∧ p.2.2.2.1 < env.length) ∧ (h'.2 (kv ρ p.1)).2.2 (kv ρ p.2.1) = vv ρ p.2.2) := fun hr p hp => by
              obtain ⟨m1, m2⟩ := List.mem_filter.mp hp
              have m3 := keepC_of I.1 m2
              refine ⟨I.2.2.1.1 p m1, ?_⟩
              rw [hr.2 (kv ρ p.1) (Nat.lt_of_lt_of_le m3.1 I.2.2.2.1.1) m3.2]
              exact I.2.2.1.2 p m1
            refine call_of I ho hi hq hs q1.1 hw q2.2 (Nat.le_of_ble_eq_true w5.1) (Nat.le_of_ble_eq_true w5.2) hM fun r h' hr => ?_
            obtain ⟨r1, r2, r3⟩ := hr
            have r4 := I.2.2.2.2.1.trans r2 w4.1
            cases hres : cj.2.2.1 with
            | none =>
              rw [hres] at r3 hx
              cases hx
              have r3 : r.1 = 0 := r3
              refine ⟨fun _ => ?_, fun e => absurd (r3.symm.trans e) (by decide)⟩
              exact goOn I (f' := bhd f rest (fC f - cj.2.2.2.2.1) (fO f - cj.2.2.2.2.2)) (fun _ _ => rfl) (Nat.le_refl _) I.1 I.2.1 ⟨fun p hp => (keep r2 p hp).1, fun p hp => (keep r2 p hp).2⟩ r1 r4 rfl rfl I.L hrest (one kk)
            | some rv =>
              rw [hres] at r3 hx
              cases hx
              obtain ⟨e0, e2, e3⟩ := r3
              refine ⟨fun e => absurd (e.symm.trans e0) (by decide), fun _ => ?_⟩
              have ag : ∀ b, b < env.length → up ρ env.length r.2.2 b = ρ b := fun b hb => up_lt hb
              have l : env.length ≤ (env ++ [rv.2]).length := by rw [len1]; omega
              have := goOn I (f' := bhd f ((rv.1, env.length, 0) :: rest) (fC f - cj.2.2.2.2.1) (fO f - cj.2.2.2.2.2)) (ρ' := up ρ env.length r.2.2) (env' := env ++ [rv.2]) (h' := h') ag l (I.1.push e3) (DcOk_ext ag l I.2.1) ⟨fun p hp => ⟨Nat.lt_of_lt_of_le (keep r2 p hp).1.1 l, Nat.lt_of_lt_of_le (keep r2 p hp).1.2.1 l, Nat.lt_of_lt_of_le (keep r2 p hp).1.2.2 l⟩, MemS_ext ag (fun p hp => (keep r2 p hp).1) fun p hp => (keep r2 p hp).2⟩ r1 r4 rfl rfl (fun p hp => Nat.lt_of_lt_of_le (I.L p hp) l) (fun v hv => (List.mem_cons.mp hv).elim (fun x => by rw [x, len1]; exact Nat.lt_succ_self _) fun m => Nat.lt_of_lt_of_le (hrest v m) l) (one kk)
              have e5 : cL (up ρ env.length r.2.2) (fL' f) = cL ρ (fL' f) := cL_ext ag I.L
              have e6 : cS (up ρ env.length r.2.2) ((rv.1, env.length, 0) :: rest) = r.2 :: cS ρ rest := by
                show (rv.1, up ρ env.length r.2.2 env.length + 0) :: cS _ rest = _
                rw [cS_ext ag hrest, up_at, Int.add_zero, ← e2]
              have this : MW (kT (fM f)) (SemK Q0 ρ fs) (fC f - cj.2.2.2.2.1) (fO f - cj.2.2.2.2.2) (pcA (pgT (fM f)) (fI' f + 1)) (cL (up ρ env.length r.2.2) (fL' f)) (cS (up ρ env.length r.2.2) ((rv.1, env.length, 0) :: rest)) h' := this
              rw [e5, e6] at this
              exact this
          · cases hx
      · cases hx
end CM
