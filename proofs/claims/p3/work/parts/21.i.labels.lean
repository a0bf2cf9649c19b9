/-! labels: joins and loops -/
def bLs (nb : Nat) (cur : Lv) : List Iv → List (Nat × Option (Nat × Iv)) → Option (Lv × List Iv)
  | fr, [] => some ([], fr)
  | fr, (s, none) :: r => (match lkL cur s with
    | some v => (bLs nb cur fr r).map fun q => ((s, v) :: q.1, q.2)
    | none => none)
  | fr, (s, some e) :: r => (bLs nb cur (fr ++ [e.2]) r).map fun q => ((s, (e.1, nb + fr.length, 0)) :: q.1, q.2)
def bSs (nb : Nat) : List Iv → List (Nat × Iv) → List Vl × List Iv
  | fr, [] => ([], fr)
  | fr, e :: r => let q := bSs nb (fr ++ [e.2]) r; ((e.1, nb + fr.length, 0) :: q.1, q.2)
def bMs (nb : Nat) (cur : Mo) : List Iv → List ((Nat × Int) × Nat × Option (Nat × Iv)) → Option (Mo × List Iv)
  | fr, [] => some ([], fr)
  | fr, (a, j, none) :: r => (match lkM cur a (0, (j : Int)) with
    | some v => (bMs nb cur fr r).map fun q => ((a, (0, (j : Int)), v) :: q.1, q.2)
    | none => none)
  | fr, (a, j, some e) :: r => (bMs nb cur (fr ++ [e.2]) r).map fun q => ((a, (0, (j : Int)), (e.1, nb + fr.length, 0)) :: q.1, q.2)
def bDs (L : Lv) (M : Mo) : List (Int × Nat × Nat) → Option (List (Int × Vl))
  | [] => some []
  | q :: r => (match (if Nat.beq q.2.1 0 then lkL L q.2.2 else (M[q.2.2]?).map fun p => p.2.2), bDs L M r with
    | some v, some d => some ((q.1, v) :: d)
    | _, _ => none)
def refV (L : Lv) (M : Mo) (q : Nat × Nat) : Option Vl := if Nat.beq q.1 0 then lkL L q.2 else (M[q.2]?).map fun p => p.2.2
def bRs (L : Lv) (M : Mo) : List ((Nat × Nat) × (Nat × Nat) × Int) → Option (List (Vl × Vl × Int))
  | [] => some []
  | q :: r => (match refV L M q.1, refV L M q.2.1, bRs L M r with
    | some v, some w, some d => some ((v, w, q.2.2) :: d)
    | _, _, _ => none)
def mkLb (f : Fr) (env : List Iv) (me : Mo) (n : An) : Option Lb := match bLs env.length (fL' f) [] n.2.1 with
  | some q => (match bMs env.length me (bSs env.length q.2 n.2.2.1).2 n.2.2.2.2.1 with
    | some p => (match bDs q.1 p.1 n.2.2.2.2.2.2.1, bRs q.1 p.1 n.2.2.2.2.2.2.2 with
      | some d, some r => some (n.1, q.1, (bSs env.length q.2 n.2.2.1).1 ++ (fS f).drop n.2.2.2.1, p.2, p.1, env.length, fC f, fO f, (if n.2.2.2.2.2.2.1.isEmpty then [] else (n.2.2.2.2.2.1, (0, 0, 1)) :: d), r)
      | _, _ => none)
    | none => none)
  | none => none
/-- a bound from below of what falls -/
def lbM (env : List Iv) : List (Int × Vl) → Option Int
  | [] => some 0
  | q :: r => (match ivOf env q.2, lbM env r with
    | some e, some c => some ((if decide (0 ≤ q.1) then q.1 * e.1 else q.1 * e.2.1) + c)
    | _, _ => none)
theorem lbM_of {T : Tc} {ρ : Nat → Int} {env : List Iv} (R : RelE T ρ env) : ∀ (D : List (Int × Vl)) (c : Int), lbM env D = some c → c ≤ mSum ρ D
  | [], c, h => by cases h; exact Int.le_refl _
  | q :: r, c, h => by
    unfold lbM at h
    split at h
    · next e d he hd =>
      cases h
      have ih := lbM_of R r d hd
      have k := ivOf_of R he
      unfold mSum
      have : (if decide (0 ≤ q.1) then q.1 * e.1 else q.1 * e.2.1) ≤ q.1 * vv ρ q.2 := by
        split
        · next z => exact Int.mul_le_mul_of_nonneg_left k.1 (of_decide_eq_true z)
        · next z =>
          have z : ¬ 0 ≤ q.1 := fun y => z (decide_eq_true y)
          exact Int.mul_le_mul_of_nonpos_left (by omega) k.2.1
      omega
    · cases h
def wfLb (env : List Iv) (b : Lb) : Bool :=
  let n := env.length + (lF b).length
  Nat.beq (lNb b) env.length && ((lL b).all (fun q => Nat.blt q.2.2.1 n) && ((lS b).all (fun v => Nat.blt v.2.1 n) && ((lM b).all (fun q => Nat.blt q.1.1 n && (Nat.blt q.2.1.1 n && Nat.blt q.2.2.2.1 n)) && ((lR b).all (fun q => Nat.blt q.1.2.1 n && Nat.blt q.2.1.2.1 n) && ((lD b).all (fun q => Nat.blt q.2.2.1 n) && (match lbM (env ++ lF b) (lD b) with
    | some c => decide (0 ≤ c)
    | none => false))))))
/-- the pattern p meets the value v; us: what the fresh ones are -/
def mV (nb : Nat) (us : List Vl) (p v : Vl) : Option (List Vl) := if Nat.blt p.2.1 nb then (if Nat.beq p.1 v.1 && (Nat.beq p.2.1 v.2.1 && decide (p.2.2 = v.2.2)) then some us else none)
  else if Nat.beq p.1 v.1 && (Nat.beq p.2.1 (nb + us.length) && decide (p.2.2 = 0)) then some (us ++ [v]) else none
def mLs (nb : Nat) (cur : Lv) : List Vl → Lv → Option (List Vl)
  | us, [] => some us
  | us, q :: r => (match lkL cur q.1 with
    | some v => (match mV nb us q.2 v with
      | some us' => mLs nb cur us' r
      | none => none)
    | none => none)
def mSs (nb : Nat) : List Vl → List Vl → List Vl → Option (List Vl)
  | us, [], [] => some us
  | us, p :: r, v :: s => (match mV nb us p v with
    | some us' => mSs nb us' r s
    | none => none)
  | _, _, _ => none
def mMs (nb : Nat) (cur : Mo) : List Vl → Mo → Option (List Vl)
  | us, [] => some us
  | us, q :: r => (match (if Nat.blt q.1.1 nb && Nat.blt q.2.1.1 nb then lkM cur q.1 q.2.1 else none) with
    | some v => (match mV nb us q.2.2 v with
      | some us' => mMs nb cur us' r
      | none => none)
    | none => none)
def ivsIn (env : List Iv) : List Vl → List Iv → Bool
  | [], [] => true
  | v :: r, e :: s => (match ivOf env v with
    | some d => ivIn d e && ivsIn env r s
    | none => false)
  | _, _ => false
def newV (nb : Nat) (us : List Vl) (v : Vl) : Vl := if Nat.blt v.2.1 nb then v else match us[v.2.1 - nb]? with
  | some u => (u.1, u.2.1, u.2.2 + v.2.2)
  | none => v
/-- a bound from above of how what falls grows -/
def mUB (env : List Iv) (dc : Dc) (nb : Nat) (us : List Vl) : List (Int × Vl) → Option Int
  | [] => some 0
  | q :: r => (match (if decide (0 ≤ q.1) then dUB env dc (newV nb us q.2) q.2 else dUB env dc q.2 (newV nb us q.2)), mUB env dc nb us r with
    | some a, some b => some ((if decide (0 ≤ q.1) then q.1 * a else -q.1 * a) + b)
    | _, _ => none)
def relB (env : List Iv) (dc : Dc) (nb : Nat) (us : List Vl) (rs : List (Vl × Vl × Int)) : Bool := rs.all fun q => match dUB env dc (newV nb us q.1) (newV nb us q.2.1) with
  | some c => decide (c ≤ q.2.2)
  | none => false
def arr (ini : Bool) (env : List Iv) (dc : Dc) (me : Mo) (f : Fr) (b : Lb) : Bool := Nat.ble (lC b) (fC f) && (Nat.ble (lO b) (fO f) && (match mLs (lNb b) (fL' f) [] (lL b) with
  | some u1 => (match mSs (lNb b) u1 (lS b) (fS f) with
    | some u2 => (match mMs (lNb b) me u2 (lM b) with
      | some us => ivsIn env us (lF b) && (relB env dc (lNb b) us (lR b) && ((lD b).isEmpty || (match mUB env dc (lNb b) us (lD b) with
        | some c => decide (c < 0)
        | none => false) || ini))
      | none => false)
    | none => false)
  | none => false))
theorem mV_of {nb : Nat} {us us' : List Vl} {p v : Vl} (h : mV nb us p v = some us') : us <+: us' ∧ ∀ (ρ : Nat → Int) (fs : List Vl), us' <+: fs → cv (extn ρ nb (fs.map (vv ρ))) p = cv ρ v := by
  unfold mV at h
  split at h
  · next q =>
    have q : p.2.1 < nb := by unfold Nat.blt at q; exact Nat.le_of_ble_eq_true q
    split at h
    · next e =>
      cases h
      rw [Bool.and_eq_true, Bool.and_eq_true] at e
      refine ⟨List.prefix_refl _, fun ρ fs _ => ?_⟩
      unfold cv extn
      rw [if_pos q, Nat.eq_of_beq_eq_true e.1, Nat.eq_of_beq_eq_true e.2.1, of_decide_eq_true e.2.2]
    · cases h
  · next q =>
    split at h
    · next e =>
      cases h
      rw [Bool.and_eq_true, Bool.and_eq_true] at e
      refine ⟨List.prefix_append _ _, fun ρ fs hp => ?_⟩
      obtain ⟨t, ht⟩ := hp
      have e1 := Nat.eq_of_beq_eq_true e.1
      have e2 := Nat.eq_of_beq_eq_true e.2.1
      have e3 := of_decide_eq_true e.2.2
      unfold cv extn
      rw [if_neg (by omega), e1, e2, e3]
      have : (fs.map (vv ρ))[nb + us.length - nb]? = some (vv ρ v) := by
        rw [Nat.add_sub_cancel_left, ← ht, List.getElem?_map, List.append_assoc, List.getElem?_append_right (Nat.le_refl _), Nat.sub_self]
        rfl
      rw [this]
      show (v.1, vv ρ v + 0) = _
      rw [Int.add_zero]
      rfl
    · cases h
theorem mLs_of {nb : Nat} {cur : Lv} : ∀ {us us' : List Vl} {L : Lv}, mLs nb cur us L = some us' → us <+: us' ∧ ∀ (ρ : Nat → Int) (fs : List Vl), us' <+: fs → ∀ q ∈ cL (extn ρ nb (fs.map (vv ρ))) L, mlook (cL ρ cur) q.1 = some q.2
  | us, us', [], h => by
    cases h
    exact ⟨List.prefix_refl _, fun _ _ _ q hq => absurd hq List.not_mem_nil⟩
  | us, us', p :: r, h => by
    unfold mLs at h
    split at h
    · next v hv =>
      split at h
      · next u1 h1 =>
        have a := mV_of h1
        have b := mLs_of h
        refine ⟨a.1.trans b.1, fun ρ fs hp q hq => ?_⟩
        rcases List.mem_cons.mp hq with e | e
        · rw [e]
          show mlook _ p.1 = some (cv _ p.2)
          rw [lkL_look hv, a.2 ρ fs (b.1.trans hp)]
        · exact b.2 ρ fs hp q e
      · cases h
    · cases h
theorem mSs_of {nb : Nat} : ∀ {us us' S T : List Vl}, mSs nb us S T = some us' → us <+: us' ∧ ∀ (ρ : Nat → Int) (fs : List Vl), us' <+: fs → cS (extn ρ nb (fs.map (vv ρ))) S = cS ρ T
  | us, us', [], [], h => by
    cases h
    exact ⟨List.prefix_refl _, fun _ _ _ => rfl⟩
  | us, us', p :: r, v :: s, h => by
    unfold mSs at h
    split at h
    · next u1 h1 =>
      have a := mV_of h1
      have b := mSs_of h
      refine ⟨a.1.trans b.1, fun ρ fs hp => ?_⟩
      show cv _ p :: cS _ r = cv ρ v :: cS ρ s
      rw [a.2 ρ fs (b.1.trans hp), b.2 ρ fs hp]
    · cases h
  | us, us', [], v :: s, h => by cases h
  | us, us', p :: r, [], h => by cases h
theorem mMs_of {nb : Nat} {cur : Mo} : ∀ {us us' : List Vl} {M : Mo}, mMs nb cur us M = some us' → us <+: us' ∧ ∀ (ρ : Nat → Int) (fs : List Vl) (h : MH), us' <+: fs → MemS ρ h cur → MemS (extn ρ nb (fs.map (vv ρ))) h M
  | us, us', [], h => by
    cases h
    exact ⟨List.prefix_refl _, fun _ _ _ _ _ q hq => absurd hq List.not_mem_nil⟩
  | us, us', p :: r, h => by
    unfold mMs at h
    split at h
    · next v hv =>
      split at hv
      · next hk =>
        rw [Bool.and_eq_true] at hk
        have hk1 : p.1.1 < nb := by have := hk.1; unfold Nat.blt at this; exact Nat.le_of_ble_eq_true this
        have hk : p.2.1.1 < nb := by have := hk.2; unfold Nat.blt at this; exact Nat.le_of_ble_eq_true this
        split at h
        · next u1 h1 =>
          have a := mV_of h1
          have b := mMs_of h
          refine ⟨a.1.trans b.1, fun ρ fs hh hp m q hq => ?_⟩
          rcases List.mem_cons.mp hq with e | e
          · rw [e]
            have := m _ (lkM_mem hv)
            have e2 := congrArg (·.2) (a.2 ρ fs (b.1.trans hp))
            have e3 : kv (extn ρ nb (fs.map (vv ρ))) p.2.1 = kv ρ p.2.1 := by
              unfold kv extn
              rw [if_pos hk]
            have e4 : kv (extn ρ nb (fs.map (vv ρ))) p.1 = kv ρ p.1 := by
              unfold kv extn
              rw [if_pos hk1]
            rw [e3, e4]
            exact this.trans e2.symm
          · exact b.2 ρ fs hh hp m q e
        · cases h
      · cases hv
    · cases h
theorem ivsIn_of {T : Tc} {ρ : Nat → Int} {env : List Iv} (R : RelE T ρ env) : ∀ {us : List Vl} {es : List Iv}, ivsIn env us es = true → us.length = es.length ∧ ∀ (j : Nat) (e : Iv) (z : Int), es[j]? = some e → (us.map (vv ρ))[j]? = some z → ivOk T e z
  | [], [], _ => ⟨rfl, fun j e z h => by simp at h⟩
  | v :: r, e :: s, h => by
    unfold ivsIn at h
    split at h
    · next d hd =>
      rw [Bool.and_eq_true] at h
      have ih := ivsIn_of R h.2
      refine ⟨by rw [List.length_cons, List.length_cons, ih.1], fun j e' z h1 h2 => ?_⟩
      cases j with
      | zero =>
        cases h1
        cases h2
        exact ivIn_of h.1 (ivOf_of R hd)
      | succ j => exact ih.2 j e' z h1 h2
    · cases h
  | [], e :: s, h => by cases h
  | v :: r, [], h => by cases h
theorem newV_of {ρ : Nat → Int} {nb : Nat} {us : List Vl} {v : Vl} (h : v.2.1 < nb + us.length) : vv (extn ρ nb (us.map (vv ρ))) v = vv ρ (newV nb us v) := by
  unfold newV
  split
  · next q =>
    have q : v.2.1 < nb := by unfold Nat.blt at q; exact Nat.le_of_ble_eq_true q
    show extn ρ nb _ v.2.1 + v.2.2 = ρ v.2.1 + v.2.2
    unfold extn
    rw [if_pos q]
  · next q =>
    have q : ¬ v.2.1 < nb := fun y => q (by unfold Nat.blt; exact Nat.ble_eq_true_of_le y)
    have l : v.2.1 - nb < us.length := by omega
    show extn ρ nb _ v.2.1 + v.2.2 = _
    unfold extn
    rw [if_neg q, List.getElem?_map, List.getElem?_eq_getElem l]
    show vv ρ us[v.2.1 - nb] + v.2.2 = ρ us[v.2.1 - nb].2.1 + (us[v.2.1 - nb].2.2 + v.2.2)
    unfold vv
    omega
theorem mUB_of {T : Tc} {ρ : Nat → Int} {env : List Iv} {dc : Dc} {n nb : Nat} {us : List Vl} (R : RelE T ρ env) (Dk : DcOk ρ n dc) : ∀ (D : List (Int × Vl)) (c : Int), (∀ q ∈ D, q.2.2.1 < nb + us.length) → mUB env dc nb us D = some c → mSum (extn ρ nb (us.map (vv ρ))) D ≤ mSum ρ D + c
  | [], c, _, h => by cases h; exact Int.le_refl _
  | q :: r, c, w, h => by
    unfold mUB at h
    split at h
    · next a b ha hb =>
      cases h
      have ih := mUB_of R Dk r b (fun p hp => w p (List.mem_cons_of_mem _ hp)) hb
      unfold mSum
      rw [newV_of (ρ := ρ) (w q List.mem_cons_self)]
      split at ha
      · next z =>
        have k := dUB_of R Dk ha
        rw [if_pos z]
        have k : vv ρ (newV nb us q.2) - vv ρ q.2 ≤ a := k
        have := Int.mul_le_mul_of_nonneg_left k (of_decide_eq_true z)
        rw [Int.mul_sub] at this
        omega
      · next z =>
        have k := dUB_of R Dk ha
        rw [if_neg z]
        have k : vv ρ q.2 - vv ρ (newV nb us q.2) ≤ a := k
        have z : ¬ 0 ≤ q.1 := fun y => z (decide_eq_true y)
        have := Int.mul_le_mul_of_nonneg_left k (show 0 ≤ -q.1 by omega)
        rw [Int.mul_sub, Int.neg_mul, Int.neg_mul] at this
        omega
    · cases h
theorem relB_of {T : Tc} {ρ : Nat → Int} {env : List Iv} {dc : Dc} {n nb : Nat} {us : List Vl} {rs : List (Vl × Vl × Int)} (R : RelE T ρ env) (D : DcOk ρ n dc) (w : ∀ q ∈ rs, q.1.2.1 < nb + us.length ∧ q.2.1.2.1 < nb + us.length) (h : relB env dc nb us rs = true) : RelS (extn ρ nb (us.map (vv ρ))) rs := fun q hq => by
  have k := List.all_eq_true.mp h q hq
  split at k
  · next c hc =>
    have d := dUB_of R D hc
    have k := of_decide_eq_true k
    rw [newV_of (ρ := ρ) (w q hq).1, newV_of (ρ := ρ) (w q hq).2]
    have d : vv ρ (newV nb us q.1) - vv ρ (newV nb us q.2.1) ≤ c := d
    omega
  · cases k
section CL
variable {E : En} {Q0 : MO → MH → Prop} {h0 : MH} {ρ : Nat → Int} {h : MH} {f : Fr} {fs : List Fr} {env : List Iv} {dc : Dc} {me : Mo}
/-- what a label is for, without what falls -/
def LabAll (E : En) (Q0 : MO → MH → Prop) (h0 : MH) (ρ : Nat → Int) (m : Nat) (fs : List Fr) (b : Lb) : Prop := ∀ (zs : List Int) (h : MH), zs.length = (lF b).length → (∀ (j : Nat) (e : Iv) (z : Int), (lF b)[j]? = some e → zs[j]? = some z → ivOk E.1 e z) → GH E.1 h → HRel E.2.2.2.2 h0 h → MemS (extn ρ (lNb b) zs) h (lM b) → RelS (extn ρ (lNb b) zs) (lR b) → MW (kT m) (SemK Q0 ρ fs) (lC b) (lO b) (pcA (pgT m) (lI b)) (cL (extn ρ (lNb b) zs) (lL b)) (cS (extn ρ (lNb b) zs) (lS b)) h
theorem arr_us {ini : Bool} {b : Lb} (ha : arr ini env dc me f b = true) : ∃ us, lC b ≤ fC f ∧ lO b ≤ fO f ∧ (∀ ρ : Nat → Int, (∀ q ∈ cL (extn ρ (lNb b) (us.map (vv ρ))) (lL b), mlook (cL ρ (fL' f)) q.1 = some q.2) ∧ cS (extn ρ (lNb b) (us.map (vv ρ))) (lS b) = cS ρ (fS f) ∧ ∀ h, MemS ρ h me → MemS (extn ρ (lNb b) (us.map (vv ρ))) h (lM b)) ∧ ivsIn env us (lF b) = true ∧ relB env dc (lNb b) us (lR b) = true ∧ (lD b ≠ [] → ini = false → ∃ c, mUB env dc (lNb b) us (lD b) = some c ∧ c < 0) := by
  unfold arr at ha
  rw [Bool.and_eq_true, Bool.and_eq_true] at ha
  obtain ⟨a1, a2, a3⟩ := ha
  split at a3
  · next u1 e1 =>
    split at a3
    · next u2 e2 =>
      split at a3
      · next us e3 =>
        rw [Bool.and_eq_true, Bool.and_eq_true] at a3
        have m1 := mLs_of e1
        have m2 := mSs_of e2
        have m3 := mMs_of e3
        refine ⟨us, Nat.le_of_ble_eq_true a1, Nat.le_of_ble_eq_true a2, fun ρ => ⟨m1.2 ρ us (m2.1.trans m3.1), m2.2 ρ us m3.1, fun h mm => m3.2 ρ us h (List.prefix_refl _) mm⟩, a3.1, a3.2.1, fun hD hn => ?_⟩
        have a4 := a3.2.2
        rw [Bool.or_eq_true, Bool.or_eq_true] at a4
        rcases a4 with (a4 | a4) | a4
        · exact absurd (List.isEmpty_iff.mp a4) hD
        · split at a4
          · next c hc => exact ⟨c, hc, of_decide_eq_true a4⟩
          · cases a4
        · exact absurd (a4.symm.trans hn) (by decide)
      · cases a3
    · cases a3
  · cases a3
theorem arr_go (I : Inv E Q0 h0 ρ h (f :: fs, env, dc, me)) {b : Lb} {us : List Vl} (l1 : lC b ≤ fC f) (l2 : lO b ≤ fO f) (hL : ∀ q ∈ cL (extn ρ (lNb b) (us.map (vv ρ))) (lL b), mlook (cL ρ (fL' f)) q.1 = some q.2) (hS : cS (extn ρ (lNb b) (us.map (vv ρ))) (lS b) = cS ρ (fS f)) (k : MW (kT (fM f)) (SemK Q0 ρ fs) (lC b) (lO b) (pcA (pgT (fM f)) (lI b)) (cL (extn ρ (lNb b) (us.map (vv ρ))) (lL b)) (cS (extn ρ (lNb b) (us.map (vv ρ))) (lS b)) h) : MW (kT (fM f)) (SemK Q0 ρ fs) (fC f) (fO f) (pcA (pgT (fM f)) (lI b)) (cL ρ (fL' f)) (cS ρ (fS f)) h := by
  rw [hS] at k
  exact m_room l1 l2 (m_sub _ hL k)
/-- coming to a label that stands -/
theorem arr_of (I : Inv E Q0 h0 ρ h (f :: fs, env, dc, me)) {b : Lb} (hb : b ∈ fB f) (hi : lI b = fI' f) (ha : arr false env dc me f b = true) : Top Q0 ρ f fs h := by
  obtain ⟨us, l1, l2, hm, hv, hrl, hd⟩ := arr_us ha
  have F := I.2.2.2.2.2.1.2.2.2 b hb
  have iv := ivsIn_of I.1 hv
  have k := F.2.2.2 (us.map (vv ρ)) h (by rw [List.length_map]; exact iv.1) iv.2 I.2.2.2.1 I.2.2.2.2.1 ((hm ρ).2.2 h I.2.2.1.2) (relB_of I.1 I.2.1 (fun q hq => by rw [iv.1]; exact F.2.2.1 q hq) hrl) (fun hD => by
    obtain ⟨c, c1, c2⟩ := hd hD rfl
    have := mUB_of I.1 I.2.1 (lD b) c (fun q hq => by rw [iv.1]; exact (F.2.1 q hq).2) c1
    omega)
  have := arr_go I l1 l2 (hm ρ).1 (hm ρ).2.1 k
  rw [hi] at this
  exact this
theorem blt_of {a b : Nat} (h : Nat.blt a b = true) : a < b := by
  unfold Nat.blt at h
  exact Nat.le_of_ble_eq_true h
theorem wfLb_of {b : Lb} (h : wfLb env b = true) : lNb b = env.length ∧ (∀ q ∈ lL b, q.2.2.1 < env.length + (lF b).length) ∧ (∀ v ∈ lS b, v.2.1 < env.length + (lF b).length) ∧ (∀ q ∈ lM b, q.1.1 < env.length + (lF b).length ∧ q.2.1.1 < env.length + (lF b).length ∧ q.2.2.2.1 < env.length + (lF b).length) ∧ (∀ q ∈ lR b, q.1.2.1 < env.length + (lF b).length ∧ q.2.1.2.1 < env.length + (lF b).length) ∧ (∀ q ∈ lD b, q.2.2.1 < env.length + (lF b).length) ∧ ∃ c, lbM (env ++ lF b) (lD b) = some c ∧ 0 ≤ c := by
  unfold wfLb at h
  rw [Bool.and_eq_true, Bool.and_eq_true, Bool.and_eq_true, Bool.and_eq_true, Bool.and_eq_true, Bool.and_eq_true] at h
  obtain ⟨h1, h2, h3, h4, h7, h5, h6⟩ := h
  refine ⟨Nat.eq_of_beq_eq_true h1, fun q hq => blt_of (List.all_eq_true.mp h2 q hq), fun q hq => blt_of (List.all_eq_true.mp h3 q hq), fun q hq => ?_, fun q hq => ?_, fun q hq => blt_of (List.all_eq_true.mp h5 q hq), ?_⟩
  · have := List.all_eq_true.mp h4 q hq
    rw [Bool.and_eq_true, Bool.and_eq_true] at this
    exact ⟨blt_of this.1, blt_of this.2.1, blt_of this.2.2⟩
  · have := List.all_eq_true.mp h7 q hq
    rw [Bool.and_eq_true] at this
    exact ⟨blt_of this.1, blt_of this.2⟩
  · split at h6
    · next c hc => exact ⟨c, hc, of_decide_eq_true h6⟩
    · cases h6
theorem extn_lt {ρ : Nat → Int} {nb : Nat} {zs : List Int} {b : Nat} (h : b < nb) : extn ρ nb zs b = ρ b := if_pos h
theorem RelE.ext2 {T : Tc} (R : RelE T ρ env) {es : List Iv} {zs : List Int} (l : zs.length = es.length) (k : ∀ (j : Nat) (e : Iv) (z : Int), es[j]? = some e → zs[j]? = some z → ivOk T e z) : RelE T (extn ρ env.length zs) (env ++ es) := by
  refine ⟨by rw [List.length_append]; have := R.1; omega, by rw [extn_lt R.1]; exact R.2.1, fun b e he => ?_⟩
  rw [List.getElem?_append] at he
  split at he
  · next q => rw [extn_lt q]; exact R.2.2 b e he
  · next q =>
    have lb := (List.getElem?_eq_some_iff.mp he).1
    unfold extn
    rw [if_neg q, List.getElem?_eq_getElem (by omega)]
    exact k _ e _ he (List.getElem?_eq_getElem (by omega))
/-- the state from a label on -/
def relD (rs : List (Vl × Vl × Int)) (dc : Dc) : Dc := rs.map (fun q => (q.1.2.1, q.2.1.2.1, q.2.1.2.2 - q.1.2.2 + q.2.2)) ++ dc
theorem relD_of {ρ : Nat → Int} {n : Nat} {rs : List (Vl × Vl × Int)} {dc : Dc} (w : ∀ q ∈ rs, q.1.2.1 < n ∧ q.2.1.2.1 < n) (r : RelS ρ rs) (D : DcOk ρ n dc) : DcOk ρ n (relD rs dc) := fun p hp => by
  rcases List.mem_append.mp hp with m | m
  · obtain ⟨q, hq, e⟩ := List.mem_map.mp m
    have := r q hq
    unfold vv at this
    rw [← e]
    exact ⟨(w q hq).1, (w q hq).2, by show ρ q.1.2.1 ≤ ρ q.2.1.2.1 + (q.2.1.2.2 - q.1.2.2 + q.2.2); omega⟩
  · exact D p m
def lbSt (f : Fr) (fs : List Fr) (env : List Iv) (dc : Dc) (b : Lb) (ad : Nat) (bs : List Lb) : St := ((fM f, lI b, ad, lC b, lO b, lL b, lS b, bs) :: fs, env ++ lF b, relD (lR b) dc, lM b)
theorem lbInv (I : Inv E Q0 h0 ρ h (f :: fs, env, dc, me)) {b : Lb} (w : wfLb env b = true) {zs : List Int} {h' : MH} (l1 : zs.length = (lF b).length) (l2 : ∀ (j : Nat) (e : Iv) (z : Int), (lF b)[j]? = some e → zs[j]? = some z → ivOk E.1 e z) (g : GH E.1 h') (r : HRel E.2.2.2.2 h0 h') (m : MemS (extn ρ (lNb b) zs) h' (lM b)) (rl : RelS (extn ρ (lNb b) zs) (lR b)) {ad : Nat} {bs : List Lb} (hb : ∀ c ∈ bs, c ∈ fB f ∨ (c = b ∧ LabSem E Q0 h0 (extn ρ (lNb b) zs) (fM f) fs b)) : Inv E Q0 h0 (extn ρ (lNb b) zs) h' (lbSt f fs env dc b ad bs) := by
  obtain ⟨w1, w2, w3, w4, w6, w5, -⟩ := wfLb_of w
  have F := I.2.2.2.2.2
  rw [w1] at m hb rl ⊢
  have ag : ∀ c, c < env.length → extn ρ env.length zs c = ρ c := fun c hc => extn_lt hc
  have ln : (env ++ lF b).length = env.length + (lF b).length := List.length_append
  have le : env.length ≤ (env ++ lF b).length := by omega
  refine ⟨I.1.ext2 l1 l2, relD_of (fun q hq => by show _ < (env ++ lF b).length ∧ _ < (env ++ lF b).length; rw [ln]; exact w6 q hq) rl (DcOk_ext ag le I.2.1), ⟨fun q hq => by show _ < (env ++ lF b).length ∧ _ < (env ++ lF b).length ∧ _ < (env ++ lF b).length; rw [ln]; exact w4 q hq, m⟩, g, r, ⟨F.1.1, fun q hq => by show _ < (env ++ lF b).length; rw [ln]; exact w2 q hq, fun q hq => by show _ < (env ++ lF b).length; rw [ln]; exact w3 q hq, fun c hc => ?_⟩, FrsOk_ext ag le F.2⟩
  rcases hb c hc with k | ⟨k, k2⟩
  · obtain ⟨k1, k2, k4, k3⟩ := F.1.2.2.2 c k
    exact ⟨Nat.le_trans k1 le, fun q hq => ⟨Nat.lt_of_lt_of_le (k2 q hq).1 le, (k2 q hq).2⟩, k4, LabSem_ext ag F.2 k1 k2 k3⟩
  · subst k
    refine ⟨by rw [w1]; exact le, fun q hq => ⟨by show _ < (env ++ lF c).length; rw [ln]; exact w5 q hq, by rw [w1]; exact w5 q hq⟩, fun q hq => by rw [w1]; exact w6 q hq, k2⟩
/-- a join: what is behind it, then the ways to it -/
theorem join_of (I : Inv E Q0 h0 ρ h (f :: fs, env, dc, me)) {b : Lb} (w : wfLb env b = true) (hd : lD b = []) {f' : Fr} (ef : f' = (fM f, fI' f, fA f', fC f, fO f, fL' f, fS f, b :: fB f)) (k1 : Sound E Q0 h0 (lbSt f fs env dc b 0 (fB f))) (k2 : Sound E Q0 h0 (f' :: fs, env, dc, me)) : Top Q0 ρ f fs h := by
  obtain ⟨w1, w2, w3, w4, w6, w5, -⟩ := wfLb_of w
  have F := I.2.2.2.2.2
  have ag : ∀ zs c, c < env.length → extn ρ env.length zs c = ρ c := fun zs c hc => extn_lt hc
  have sem : LabSem E Q0 h0 ρ (fM f) fs b := fun zs h' l1 l2 g r m rl _ => by
    have i := lbInv I w l1 l2 g r m rl (ad := 0) (bs := fB f) fun c hc => Or.inl hc
    have k := k1 _ _ i
    have k : MW (kT (fM f)) (SemK Q0 (extn ρ (lNb b) zs) fs) (lC b) (lO b) (pcA (pgT (fM f)) (lI b)) (cL (extn ρ (lNb b) zs) (lL b)) (cS (extn ρ (lNb b) zs) (lS b)) h' := k
    rw [w1, SemK_ext (ag zs) F.2] at k
    rw [w1]
    exact k
  have k := k2 ρ h ⟨I.1, I.2.1, I.2.2.1, I.2.2.2.1, I.2.2.2.2.1, ⟨by rw [ef]; exact ⟨F.1.1, F.1.2.1, F.1.2.2.1, fun c hc => (List.mem_cons.mp hc).elim (fun e => by
    subst e
    exact ⟨by rw [w1]; exact Nat.le_refl _, fun q hq => (by rw [hd] at hq; cases hq), fun q hq => by rw [w1]; exact w6 q hq, sem⟩) (F.1.2.2.2 c)⟩, F.2⟩⟩
  rw [ef] at k
  exact k
/-- a loop: from its head on, while something falls -/
theorem loop_of (I : Inv E Q0 h0 ρ h (f :: fs, env, dc, me)) {b : Lb} (w : wfLb env b = true) (hD : lD b ≠ []) (hi : lI b = fI' f) (ha : arr true env dc me f b = true) {ad : Nat} (k1 : Sound E Q0 h0 (lbSt f fs env dc b ad (b :: fB f))) : Top Q0 ρ f fs h := by
  obtain ⟨w1, w2, w3, w4, w6, w5, c, c1, c2⟩ := wfLb_of w
  have F := I.2.2.2.2.2
  have ag : ∀ zs c, c < env.length → extn ρ env.length zs c = ρ c := fun zs c hc => extn_lt hc
  have all : ∀ (N : Nat) (zs : List Int) (h' : MH), zs.length = (lF b).length → (∀ (j : Nat) (e : Iv) (z : Int), (lF b)[j]? = some e → zs[j]? = some z → ivOk E.1 e z) → GH E.1 h' → HRel E.2.2.2.2 h0 h' → MemS (extn ρ (lNb b) zs) h' (lM b) → RelS (extn ρ (lNb b) zs) (lR b) → mSum (extn ρ (lNb b) zs) (lD b) < N → MW (kT (fM f)) (SemK Q0 ρ fs) (lC b) (lO b) (pcA (pgT (fM f)) (lI b)) (cL (extn ρ (lNb b) zs) (lL b)) (cS (extn ρ (lNb b) zs) (lS b)) h' := by
    intro N
    induction N with
    | zero =>
      intro zs h' l1 l2 g r m rl hN
      have := lbM_of (by have := I.1.ext2 l1 l2; rw [← w1] at this; exact this) (lD b) c c1
      omega
    | succ N ih =>
      intro zs h' l1 l2 g r m rl hN
      have i := lbInv I w l1 l2 g r m rl (ad := ad) (bs := b :: fB f) fun c hc => (List.mem_cons.mp hc).elim (fun e => Or.inr ⟨e, fun zs2 h2 m1 m2 g2 r2 mm rl2 hlt => ?_⟩) Or.inl
      · have k := k1 _ _ i
        have k : MW (kT (fM f)) (SemK Q0 (extn ρ (lNb b) zs) fs) (lC b) (lO b) (pcA (pgT (fM f)) (lI b)) (cL (extn ρ (lNb b) zs) (lL b)) (cS (extn ρ (lNb b) zs) (lS b)) h' := k
        rw [w1, SemK_ext (ag zs) F.2] at k
        rw [w1]
        exact k
      · have ee : extn (extn ρ (lNb b) zs) (lNb b) zs2 = extn ρ (lNb b) zs2 := by
          funext x
          unfold extn
          split
          · rfl
          · rfl
        rw [ee] at mm rl2 hlt ⊢
        have k := ih zs2 h2 m1 m2 g2 r2 mm rl2 (by
          have := hlt hD
          omega)
        rw [w1] at k ⊢
        rw [SemK_ext (ag zs) F.2]
        exact k
  obtain ⟨us, l1, l2, hm, hv, hrl, -⟩ := arr_us ha
  have iv := ivsIn_of I.1 hv
  have k := all ((mSum (extn ρ (lNb b) (us.map (vv ρ))) (lD b)).toNat + 1) (us.map (vv ρ)) h (by rw [List.length_map]; exact iv.1) iv.2 I.2.2.2.1 I.2.2.2.2.1 ((hm ρ).2.2 h I.2.2.1.2) (by rw [w1]; rw [w1] at hrl; exact relB_of I.1 I.2.1 (fun q hq => by rw [iv.1]; exact w6 q hq) hrl) (by omega)
  have := arr_go I l1 l2 (hm ρ).1 (hm ρ).2.1 k
  rw [hi] at this
  exact this
end CL
