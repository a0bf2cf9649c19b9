/-! arrays, switches, answers -/
def swGo (f : Fr) (fs : List Fr) (dc : Dc) (me : Mo) (S : List Vl) (env : List Iv) (x : Vl) : Int → List Nat → List St
  | _, [] => []
  | z, t :: ts => brS f fs me t S (asm2 env dc x (0, 0, z) 0 (0, 0, z) x 0) ++ swGo f fs dc me S env x (z + 1) ts
def xSw (q : Option (Int × List Nat)) (f : Fr) (fs : List Fr) (env : List Iv) (dc : Dc) (me : Mo) : Option (List St) := match q, fS f with
  | some (lo, dflt :: ts), x :: S => if Nat.beq x.1 0 then some ((sF f dflt (fL' f) S :: fs, env, dc, me) :: swGo f fs dc me S env x lo ts) else none
  | _, _ => none
def retIv (a : Nat) (e : Iv) : Bool := match a with
  | 4 => decide (0 ≤ e.1) && decide (e.2.1 ≤ 1)
  | 5 => decide (0 ≤ e.1) && decide (e.2.1 ≤ 65535)
  | _ => true
def retTop (res : Option (Nat × Iv)) (t : Nat) (e : Iv) : Option (List St) := match res with
  | some r => if Nat.beq r.1 t && ivIn e r.2 then some [] else none
  | none => none
/-- an answer: to the frame below, or to who called -/
def xRet (res : Option (Nat × Iv)) (t a : Nat) (f : Fr) (fs : List Fr) (env : List Iv) (dc : Dc) (me : Mo) : Option (List St) := match fS f with
  | [v] => if Nat.beq v.1 t then (match ivOf env v with
    | some e => if retIv a e then (match fs with
      | [] => retTop res t e
      | g :: gs => some [((fM g, fI' g, fA g, fC g, fO g, fL' g, v :: fS g, fB g) :: gs, env, dc, me)]) else none
    | none => none) else none
  | _ => none
def xRetV (res : Option (Nat × Iv)) (f : Fr) (fs : List Fr) (env : List Iv) (dc : Dc) (me : Mo) : Option (List St) := match fS f with
  | [] => (match fs with
    | [] => (match res with
      | some _ => none
      | none => some [])
    | g :: gs => some [(g :: gs, env, dc, me)])
  | _ => none
/-- what a method answers, by its contract -/
def resOk (T : Tc) (res : Option (Nat × Iv)) (r : MO) : Prop := match res with
  | none => r.1 = 0
  | some q => r.1 = 1 ∧ r.2.1 = q.1 ∧ ivOk T q.2 r.2.2
def Qct (T : Tc) (W : List (Nat × Nat)) (res : Option (Nat × Iv)) (h0 : MH) : MO → MH → Prop := fun r h => GH T h ∧ HRel W h0 h ∧ resOk T res r
section CJ
variable {E : En} {Q0 : MO → MH → Prop} {h0 : MH} {ρ : Nat → Int} {h : MH} {f : Fr} {fs : List Fr} {env : List Iv} {dc : Dc} {me : Mo} {ss : List St} {pc : Nat} {z : Int} {a b c : Nat}
theorem mokE_of {kd : Nat} {d : Iv} {w : Int} (h1 : bdOf kd d = true) (h2 : ivOk E.1 d w) (h0' : kd ≠ 0) (h1' : kd ≠ 1) : mokE kd w := by
  have k1 := h2.1
  have k2 := h2.2.1
  match kd, h1, h0', h1' with
  | 0, _, q, _ => exact absurd rfl q
  | 1, _, _, q => exact absurd rfl q
  | 2, h1, _, _ =>
    have h1 : (decide (0 ≤ d.1) && decide (d.2.1 ≤ 1)) = true := h1
    rw [Bool.and_eq_true] at h1
    have a1 := of_decide_eq_true h1.1
    have a2 := of_decide_eq_true h1.2
    exact ⟨by omega, by omega⟩
  | 3, h1, _, _ =>
    have h1 : (decide (-128 ≤ d.1) && decide (d.2.1 ≤ 127)) = true := h1
    rw [Bool.and_eq_true] at h1
    have a1 := of_decide_eq_true h1.1
    have a2 := of_decide_eq_true h1.2
    exact ⟨by omega, by omega⟩
  | 4, h1, _, _ =>
    have h1 : (decide (0 ≤ d.1) && decide (d.2.1 ≤ 65535)) = true := h1
    rw [Bool.and_eq_true] at h1
    have a1 := of_decide_eq_true h1.1
    have a2 := of_decide_eq_true h1.2
    exact ⟨by omega, by omega⟩
  | n + 5, _, _, _ => exact trivial
theorem xAld_of (I : Inv E Q0 h0 ρ h (f :: fs, env, dc, me)) (op : Nat) (hx : xAld E.1 op f fs env dc me = some ss) (kk : ∀ s ∈ ss, Sound E Q0 h0 s) : Ask Q0 ρ f fs h (pc, op, z, a, b, c) := by
  unfold xAld at hx
  unfold Ask
  have hS0 := I.S
  cases eS : fS f with
  | nil => rw [eS] at hx; cases hx
  | cons i S1 =>
    cases S1 with
    | nil => rw [eS] at hx; cases hx
    | cons r S =>
      rw [eS] at hx hS0
      have hS := tl_lt rfl (tl_lt rfl hS0).2
      replace hx : (if Nat.beq r.1 2 && Nat.beq i.1 0 then (match ivOf env r, ivOf env i with
        | some e, some d => (match rcls E.1 e with
          | some k => (match kdOf op (E.1.2.1 k).1 with
            | some kt => if decide (0 ≤ d.1) && decide (d.2.1 < ((E.1.2.1 k).2.1 : Int)) then xRead f fs env dc me S kt.2 (keyOf e r) (E.1.2.1 k).2.2 d.1.toNat d.2.1.toNat (keyOf d i) else none
            | none => none)
          | none => none)
        | _, _ => none) else none) = some ss := hx
      split at hx
      · next q =>
        rw [Bool.and_eq_true] at q
        have q1 := Nat.eq_of_beq_eq_true q.1
        have q2 := Nat.eq_of_beq_eq_true q.2
        split at hx
        · next e d he hd =>
          split at hx
          · next k hk =>
            split at hx
            · next kt hkt =>
              split at hx
              · next q3 =>
                rw [Bool.and_eq_true] at q3
                have d1 := of_decide_eq_true q3.1
                have d2 := of_decide_eq_true q3.2
                have ke := ivOf_of I.1 he
                have kd := ivOf_of I.1 hd
                have kr := rcls_of hk ke
                have cc := I.cell kr
                have kd1 := kd.1
                have kd2 := kd.2.1
                have e1 : (h.2 (cv ρ r).2.toNat).1 = (E.1.2.1 k).1 := cc.2.2.1
                have el : (E.1.2.1 k).1 < 16 → (h.2 (cv ρ r).2.toNat).2.1 = (E.1.2.1 k).2.1 := cc.2.2.2.1
                have hidx : (E.1.2.1 k).1 < 16 → sIdx h (cv ρ r).2 (cv ρ i).2 := fun l => ⟨cc.1, cc.2.1, by show 0 ≤ ρ i.2.1 + i.2.2; omega, by rw [el l]; show ρ i.2.1 + i.2.2 < _; omega⟩
                have go := fun (t : Nat) (ht : kt.2 = t) => xRead_of (t := t) I hS.2 kr (keyOf_at I he).1 (keyOf_at I he).2 (j := (cv ρ i).2.toNat) (show d.1.toNat ≤ (ρ i.2.1 + i.2.2).toNat by omega) (show (ρ i.2.1 + i.2.2).toNat ≤ d.2.1.toNat by omega) (keyOf_at I hd).1 (keyOf_at I hd).2 (ht ▸ hx) kk
                match op, hkt with
                | 51, hkt =>
                  replace hkt : (if Nat.beq (E.1.2.1 k).1 0 then some (0, 0) else none) = some kt := hkt
                  split at hkt
                  · next z => cases hkt; have z := Nat.eq_of_beq_eq_true z; exact ⟨q2, q1, hidx (by omega), by rw [e1, z], fun _ => go 0 rfl⟩
                  · cases hkt
                | 52, hkt =>
                  replace hkt : (if Nat.beq (E.1.2.1 k).1 1 then some (1, 1) else none) = some kt := hkt
                  split at hkt
                  · next z => cases hkt; have z := Nat.eq_of_beq_eq_true z; exact ⟨q2, q1, hidx (by omega), by rw [e1, z], fun _ => go 1 rfl⟩
                  · cases hkt
                | 53, hkt =>
                  replace hkt : (if Nat.beq (E.1.2.1 k).1 2 then some (2, 0) else if Nat.beq (E.1.2.1 k).1 3 then some (3, 0) else none) = some kt := hkt
                  show (if (h.2 (cv ρ r).2.toNat).1 = 2 then sAld 2 0 (cS ρ (i :: r :: S)) h _ else sAld 3 0 (cS ρ (i :: r :: S)) h _)
                  split at hkt
                  · next z =>
                    cases hkt
                    have z := Nat.eq_of_beq_eq_true z
                    rw [if_pos (by rw [e1, z])]
                    exact ⟨q2, q1, hidx (by omega), by rw [e1, z], fun _ => go 0 rfl⟩
                  · split at hkt
                    · next z =>
                      cases hkt
                      have z := Nat.eq_of_beq_eq_true z
                      rw [if_neg (by rw [e1, z]; decide)]
                      exact ⟨q2, q1, hidx (by omega), by rw [e1, z], fun _ => go 0 rfl⟩
                    · cases hkt
                | 54, hkt =>
                  replace hkt : (if Nat.beq (E.1.2.1 k).1 4 then some (4, 0) else none) = some kt := hkt
                  split at hkt
                  · next z => cases hkt; have z := Nat.eq_of_beq_eq_true z; exact ⟨q2, q1, hidx (by omega), by rw [e1, z], fun _ => go 0 rfl⟩
                  · cases hkt
                | 55, hkt =>
                  replace hkt : (if Nat.ble 6 (E.1.2.1 k).1 && Nat.ble (E.1.2.1 k).1 8 then some ((E.1.2.1 k).1, 2) else none) = some kt := hkt
                  split at hkt
                  · next z =>
                    cases hkt
                    rw [Bool.and_eq_true] at z
                    have z1 := Nat.le_of_ble_eq_true z.1
                    have z2 := Nat.le_of_ble_eq_true z.2
                    exact ⟨q2, q1, hidx (by omega), by rw [e1]; omega, go 2 rfl⟩
                  · cases hkt
                | 0, hkt => cases hkt
                | 1, hkt => cases hkt
                | 2, hkt => cases hkt
                | 3, hkt => cases hkt
                | 4, hkt => cases hkt
                | 5, hkt => cases hkt
                | 6, hkt => cases hkt
                | 7, hkt => cases hkt
                | 8, hkt => cases hkt
                | 9, hkt => cases hkt
                | 10, hkt => cases hkt
                | 11, hkt => cases hkt
                | 12, hkt => cases hkt
                | 13, hkt => cases hkt
                | 14, hkt => cases hkt
                | 15, hkt => cases hkt
                | 16, hkt => cases hkt
                | 17, hkt => cases hkt
                | 18, hkt => cases hkt
                | 19, hkt => cases hkt
                | 20, hkt => cases hkt
                | 21, hkt => cases hkt
                | 22, hkt => cases hkt
                | 23, hkt => cases hkt
                | 24, hkt => cases hkt
                | 25, hkt => cases hkt
                | 26, hkt => cases hkt
                | 27, hkt => cases hkt
                | 28, hkt => cases hkt
                | 29, hkt => cases hkt
                | 30, hkt => cases hkt
                | 31, hkt => cases hkt
                | 32, hkt => cases hkt
                | 33, hkt => cases hkt
                | 34, hkt => cases hkt
                | 35, hkt => cases hkt
                | 36, hkt => cases hkt
                | 37, hkt => cases hkt
                | 38, hkt => cases hkt
                | 39, hkt => cases hkt
                | 40, hkt => cases hkt
                | 41, hkt => cases hkt
                | 42, hkt => cases hkt
                | 43, hkt => cases hkt
                | 44, hkt => cases hkt
                | 45, hkt => cases hkt
                | 46, hkt => cases hkt
                | 47, hkt => cases hkt
                | 48, hkt => cases hkt
                | 49, hkt => cases hkt
                | 50, hkt => cases hkt
                | n + 56, hkt => cases hkt
              · cases hx
            · cases hx
          · cases hx
        · cases hx
      · cases hx
theorem xAst_of (I : Inv E Q0 h0 ρ h (f :: fs, env, dc, me)) (op : Nat) (ho : 56 ≤ op ∧ op ≤ 59) (hx : xAst E.1 E.2.2.2.2 op f fs env dc me = some ss) (kk : ∀ s ∈ ss, Sound E Q0 h0 s) : Ask Q0 ρ f fs h (pc, op, z, a, b, c) := by
  unfold xAst at hx
  unfold Ask
  have hS0 := I.S
  cases eS : fS f with
  | nil => rw [eS] at hx; cases hx
  | cons v S2 =>
    cases S2 with
    | nil => rw [eS] at hx; cases hx
    | cons i S1 =>
      cases S1 with
      | nil => rw [eS] at hx; cases hx
      | cons r S =>
        rw [eS] at hx hS0
        have hS := tl_lt rfl (tl_lt rfl (tl_lt rfl hS0).2).2
        replace hx : (if Nat.beq r.1 2 && Nat.beq i.1 0 then (match ivOf env r, ivOf env i, ivOf env v with
          | some e, some d, some u => (match rcls E.1 e with
            | some k => (match kdOf (op - 5) (E.1.2.1 k).1 with
              | some kt => if Nat.beq v.1 kt.2 && (bdOf kt.1 u && (decide (0 ≤ d.1) && decide (d.2.1 < ((E.1.2.1 k).2.1 : Int)))) then xWrite E.1 E.2.2.2.2 f fs env dc me S e (keyOf e r) (E.1.2.1 k).2.2 d.1.toNat d.2.1.toNat (keyOf d i) v u else none
              | none => none)
            | none => none)
          | _, _, _ => none) else none) = some ss := hx
        split at hx
        · next q =>
          rw [Bool.and_eq_true] at q
          have q1 := Nat.eq_of_beq_eq_true q.1
          have q2 := Nat.eq_of_beq_eq_true q.2
          split at hx
          · next e d u he hd hu =>
            split at hx
            · next k hk =>
              split at hx
              · next kt hkt =>
                split at hx
                · next q3 =>
                  rw [Bool.and_eq_true, Bool.and_eq_true, Bool.and_eq_true] at q3
                  have qv := Nat.eq_of_beq_eq_true q3.1
                  have d1 := of_decide_eq_true q3.2.2.1
                  have d2 := of_decide_eq_true q3.2.2.2
                  have ke := ivOf_of I.1 he
                  have kd := ivOf_of I.1 hd
                  have ku := ivOf_of I.1 hu
                  have kr := rcls_of hk ke
                  have cc := I.cell kr
                  have kd1 := kd.1
                  have kd2 := kd.2.1
                  have e1 : (h.2 (cv ρ r).2.toNat).1 = (E.1.2.1 k).1 := cc.2.2.1
                  have el : (E.1.2.1 k).1 < 16 → (h.2 (cv ρ r).2.toNat).2.1 = (E.1.2.1 k).2.1 := cc.2.2.2.1
                  have hidx : (E.1.2.1 k).1 < 16 → sIdx h (cv ρ r).2 (cv ρ i).2 := fun l => ⟨cc.1, cc.2.1, by show 0 ≤ ρ i.2.1 + i.2.2; omega, by rw [el l]; show ρ i.2.1 + i.2.2 < _; omega⟩
                  have go := xWrite_of I hS.2 ke kr (keyOf_at I he).1 (keyOf_at I he).2 (j := (cv ρ i).2.toNat) (show d.1.toNat ≤ (ρ i.2.1 + i.2.2).toNat by omega) (show (ρ i.2.1 + i.2.2).toNat ≤ d.2.1.toNat by omega) (keyOf_at I hd).1 (keyOf_at I hd).2 hu hx kk
                  have mk := fun h0' h1' => mokE_of (E := E) (kd := kt.1) q3.2.1 ku h0' h1'
                  match op, ho, hkt with
                  | 56, _, hkt =>
                    replace hkt : (if Nat.beq (E.1.2.1 k).1 0 then some (0, 0) else none) = some kt := hkt
                    split at hkt
                    · next z => cases hkt; have z := Nat.eq_of_beq_eq_true z; exact ⟨qv, q2, q1, hidx (by omega), go.1, by rw [e1, z], fun w => absurd rfl w, go.2⟩
                    · cases hkt
                  | 57, _, hkt =>
                    replace hkt : (if Nat.beq (E.1.2.1 k).1 1 then some (1, 1) else none) = some kt := hkt
                    split at hkt
                    · next z => cases hkt; have z := Nat.eq_of_beq_eq_true z; exact ⟨qv, q2, q1, hidx (by omega), go.1, by rw [e1, z], fun _ w => absurd rfl w, go.2⟩
                    · cases hkt
                  | 58, _, hkt =>
                    replace hkt : (if Nat.beq (E.1.2.1 k).1 2 then some (2, 0) else if Nat.beq (E.1.2.1 k).1 3 then some (3, 0) else none) = some kt := hkt
                    show (if (h.2 (cv ρ r).2.toNat).1 = 2 then sAst 2 0 (cS ρ (v :: i :: r :: S)) h _ else sAst 3 0 (cS ρ (v :: i :: r :: S)) h _)
                    split at hkt
                    · next z =>
                      cases hkt
                      have z := Nat.eq_of_beq_eq_true z
                      rw [if_pos (by rw [e1, z])]
                      exact ⟨qv, q2, q1, hidx (by omega), go.1, by rw [e1, z], mk, go.2⟩
                    · split at hkt
                      · next z =>
                        cases hkt
                        have z := Nat.eq_of_beq_eq_true z
                        rw [if_neg (by rw [e1, z]; decide)]
                        exact ⟨qv, q2, q1, hidx (by omega), go.1, by rw [e1, z], mk, go.2⟩
                      · cases hkt
                  | 59, _, hkt =>
                    replace hkt : (if Nat.beq (E.1.2.1 k).1 4 then some (4, 0) else none) = some kt := hkt
                    split at hkt
                    · next z => cases hkt; have z := Nat.eq_of_beq_eq_true z; exact ⟨qv, q2, q1, hidx (by omega), go.1, by rw [e1, z], mk, go.2⟩
                    · cases hkt
                  | n + 60, ho, _ => omega
                · cases hx
              · cases hx
            · cases hx
          · cases hx
        · cases hx
theorem swGo_of (I : Inv E Q0 h0 ρ h (f :: fs, env, dc, me)) {x : Vl} {S : List Vl} (hS : ∀ v ∈ S, v.2.1 < env.length) : ∀ (ts : List Nat) (lo : Int), (∀ s ∈ swGo f fs dc me S env x lo ts, Sound E Q0 h0 s) → ∀ (j t : Nat), ts[j]? = some t → vv ρ x = lo + j → MW (kT (fM f)) (SemK Q0 ρ fs) (fC f) (fO f) (pcA (pgT (fM f)) t) (cL ρ (fL' f)) (cS ρ S) h
  | [], _, _, j, t, e, _ => by simp at e
  | u :: ts, lo, k, 0, t, e, q => by
    cases e
    have k1 : ∀ s ∈ brS f fs me u S (asmC 0 env dc x (0, 0, lo)), Sound E Q0 h0 s := fun s hs => k s (List.mem_append_left _ hs)
    refine brS_of I hS (c := 0) ?_ k1
    show vv ρ x = ρ 0 + lo
    rw [I.1.2.1, q]
    omega
  | u :: ts, lo, k, j + 1, t, e, q => swGo_of I hS ts (lo + 1) (fun s hs => k s (List.mem_append_right _ hs)) j t e (by omega)
theorem xSw_of (I : Inv E Q0 h0 ρ h (f :: fs, env, dc, me)) (hx : xSw (pgT (fM f)).2[a]? f fs env dc me = some ss) (kk : ∀ s ∈ ss, Sound E Q0 h0 s) : Ask Q0 ρ f fs h (pc, 65, z, a, b, c) := by
  unfold Ask
  show sSw (pgT (fM f)).2[a]? (cS ρ (fS f)) (fun t S => MW (kT (fM f)) (SemK Q0 ρ fs) (fC f) (fO f) (pcA (pgT (fM f)) t) (cL ρ (fL' f)) S h)
  have hS0 := I.S
  generalize (pgT (fM f)).2[a]? = q at *
  unfold xSw at hx
  split at hx
  · next lo dflt ts x S eS =>
    rw [eS] at hS0 ⊢
    have hS := tl_lt rfl hS0
    split at hx
    · next q1 =>
      cases hx
      refine ⟨Nat.eq_of_beq_eq_true q1, ?_⟩
      have kd := goSame I (i := dflt) (L := fL' f) (S := S) I.L hS.2 (kk _ List.mem_cons_self)
      show sSw2 ts[((cv ρ x).2 - lo).toNat]? lo dflt (cv ρ x).2 _
      unfold sSw2
      cases e2 : ts[((cv ρ x).2 - lo).toNat]? with
      | none => exact kd
      | some t =>
        show (if lo ≤ (cv ρ x).2 then _ else _)
        split
        · next l =>
          exact swGo_of I hS.2 ts lo (fun s hs => kk s (List.mem_cons_of_mem _ hs)) _ t e2 (by show (cv ρ x).2 = _; omega)
        · exact kd
    · cases hx
  · cases hx
theorem xRet_of {res : Option (Nat × Iv)} (I : Inv E (Qct E.1 E.2.2.2.2 res h0) h0 ρ h (f :: fs, env, dc, me)) {t : Nat} (hx : xRet res t a f fs env dc me = some ss) (kk : ∀ s ∈ ss, Sound E (Qct E.1 E.2.2.2.2 res h0) h0 s) : ∃ v, fS f = [v] ∧ v.1 = t ∧ (a = 4 → 0 ≤ vv ρ v ∧ vv ρ v ≤ 1) ∧ (a = 5 → 0 ≤ vv ρ v ∧ vv ρ v ≤ 65535) ∧ SemK (Qct E.1 E.2.2.2.2 res h0) ρ fs (1, cv ρ v) h := by
  have hS0 := I.S
  unfold xRet at hx
  split at hx
  · next v eS =>
    rw [eS] at hS0
    refine ⟨v, eS, ?_⟩
    split at hx
    · next q =>
      have q := Nat.eq_of_beq_eq_true q
      split at hx
      · next e he =>
        have ke := ivOf_of I.1 he
        have k1 := ke.1
        have k2 := ke.2.1
        split at hx
        · next qr =>
          refine ⟨q, ?_, ?_, ?_⟩
          · intro a4
            subst a4
            have qr : (decide (0 ≤ e.1) && decide (e.2.1 ≤ 1)) = true := qr
            rw [Bool.and_eq_true] at qr
            have a1 := of_decide_eq_true qr.1
            have a2 := of_decide_eq_true qr.2
            exact ⟨by unfold vv; omega, by unfold vv; omega⟩
          · intro a4
            subst a4
            have qr : (decide (0 ≤ e.1) && decide (e.2.1 ≤ 65535)) = true := qr
            rw [Bool.and_eq_true] at qr
            have a1 := of_decide_eq_true qr.1
            have a2 := of_decide_eq_true qr.2
            exact ⟨by unfold vv; omega, by unfold vv; omega⟩
          · cases fs with
            | nil =>
              replace hx : retTop res t e = some ss := hx
              have hq : resOk E.1 res (1, cv ρ v) := by
                clear kk I
                unfold retTop at hx
                split at hx
                · next r =>
                  split at hx
                  · next q5 =>
                    rw [Bool.and_eq_true] at q5
                    exact ⟨rfl, by show v.1 = r.1; rw [q, Nat.eq_of_beq_eq_true q5.1], ivIn_of q5.2 ke⟩
                  · cases hx
                · cases hx
              exact ⟨I.2.2.2.1, I.2.2.2.2.1, hq⟩
            | cons g gs =>
              cases hx
              have F := I.2.2.2.2.2.2
              have k := (one kk) ρ h ⟨I.1, I.2.1, I.2.2.1, I.2.2.2.1, I.2.2.2.2.1, ⟨⟨F.1.1, F.1.2.1, fun u hu => (List.mem_cons.mp hu).elim (fun x => x ▸ hS0 v List.mem_cons_self) (F.1.2.2.1 u), F.1.2.2.2⟩, F.2⟩⟩
              exact ⟨fun z => absurd (show (1 : Nat) = 0 from z) (by decide), fun _ => k⟩
        · cases hx
      · cases hx
    · cases hx
  · cases hx
theorem xRetV_of {res : Option (Nat × Iv)} (I : Inv E (Qct E.1 E.2.2.2.2 res h0) h0 ρ h (f :: fs, env, dc, me)) (hx : xRetV res f fs env dc me = some ss) (kk : ∀ s ∈ ss, Sound E (Qct E.1 E.2.2.2.2 res h0) h0 s) : Ask (Qct E.1 E.2.2.2.2 res h0) ρ f fs h (pc, 63, z, a, b, c) := by
  unfold Ask
  unfold xRetV at hx
  split at hx
  · next eS =>
    rw [eS]
    refine ⟨rfl, ?_⟩
    cases fs with
    | nil =>
      cases res with
      | none => exact ⟨I.2.2.2.1, I.2.2.2.2.1, rfl⟩
      | some r => cases hx
    | cons g gs =>
      cases hx
      have F := I.2.2.2.2.2.2
      have k := (one kk) ρ h ⟨I.1, I.2.1, I.2.2.1, I.2.2.2.1, I.2.2.2.2.1, F⟩
      exact ⟨fun _ => k, fun z => absurd (show (0 : Nat) = 1 from z) (by decide)⟩
  · cases hx
end CJ
