/-! what each instruction makes of a state -/
def lkL : Lv → Nat → Option Vl
  | [], _ => none
  | q :: r, i => if Nat.beq q.1 i then some q.2 else lkL r i
theorem lkL_mem : ∀ {L : Lv} {i : Nat} {v : Vl}, lkL L i = some v → (i, v) ∈ L
  | [], _, _, h => by cases h
  | q :: r, i, v, h => by
    unfold lkL at h
    split at h
    · next e =>
      cases h
      rw [← Nat.eq_of_beq_eq_true e]
      exact List.mem_cons_self
    · exact List.mem_cons_of_mem _ (lkL_mem h)
theorem lkL_look {ρ : Nat → Int} : ∀ {L : Lv} {i : Nat} {v : Vl}, lkL L i = some v → mlook (cL ρ L) i = some (cv ρ v)
  | [], _, _, h => by cases h
  | q :: r, i, v, h => by
    unfold lkL at h
    show (if q.1 = i then some (cv ρ q.2) else mlook (cL ρ r) i) = _
    split at h
    · next e =>
      cases h
      rw [if_pos (Nat.eq_of_beq_eq_true e)]
    · next e =>
      rw [if_neg fun (z : q.1 = i) => e (by rw [z]; exact Nat.beq_refl i)]
      exact lkL_look h
def vcat (v : Vl) : Nat := if v.1 = 0 ∨ v.1 = 2 then 1 else 2
theorem vcat_cv (ρ : Nat → Int) (v : Vl) : mcat (cv ρ v) = vcat v := rfl
def aput (L : Lv) (i : Nat) (v : Vl) : Lv := (i, v) :: L.filter fun q => !(q.1 == i) && !(q.1 + 1 == i && vcat q.2 == 2)
def aput2 (L : Lv) (i : Nat) (v : Vl) : Lv := (i, v) :: L.filter fun q => !(q.1 == i) && (!(q.1 == i + 1) && !(q.1 + 1 == i && vcat q.2 == 2))
theorem aput_cL (ρ : Nat → Int) (L : Lv) (i : Nat) (v : Vl) : cL ρ (aput L i v) = mput (cL ρ L) i (cv ρ v) := by
  unfold aput mput cL
  rw [List.map_cons, List.filter_map]
  rfl
theorem aput2_cL (ρ : Nat → Int) (L : Lv) (i : Nat) (v : Vl) : cL ρ (aput2 L i v) = mput2 (cL ρ L) i (cv ρ v) := by
  unfold aput2 mput2 cL
  rw [List.map_cons, List.filter_map]
  rfl
theorem aput_lt {L : Lv} {i n : Nat} {v : Vl} (h : ∀ q ∈ L, q.2.2.1 < n) (hv : v.2.1 < n) : ∀ q ∈ aput L i v, q.2.2.1 < n := fun q hq => (List.mem_cons.mp hq).elim (fun e => e ▸ hv) fun m => h q (List.mem_filter.mp m).1
theorem aput2_lt {L : Lv} {i n : Nat} {v : Vl} (h : ∀ q ∈ L, q.2.2.1 < n) (hv : v.2.1 < n) : ∀ q ∈ aput2 L i v, q.2.2.1 < n := fun q hq => (List.mem_cons.mp hq).elim (fun e => e ▸ hv) fun m => h q (List.mem_filter.mp m).1
/-- kinds of both numbers and of the answer, and what is worked out -/
def tBin (op : Nat) : Nat := if Nat.ble op 15 || (Nat.ble 24 op && Nat.ble op 26) || (Nat.ble 30 op && Nat.ble op 31) || Nat.beq op 20 || Nat.beq op 21 || Nat.beq op 69 || Nat.beq op 70 then 0 else 1
def tBin2 (op : Nat) : Nat := if Nat.beq op 32 || Nat.beq op 33 then 0 else tBin op
def aBin (op : Nat) (env : List Iv) (dc : Dc) (x y : Vl) (a b : Iv) : Option AR := match op with
  | 12 => some (aAdd 0 env.length x y a b)
  | 13 => some (aSub 0 env dc x y a b)
  | 14 => some (aMul 0 a b)
  | 16 => some (aAdd 1 env.length x y a b)
  | 17 => some (aSub 1 env dc x y a b)
  | 18 => some (aMul 1 a b)
  | 20 => aDiv 0 env.length x a b
  | 21 => aRem env.length x y a b
  | 22 => aDiv 1 env.length x a b
  | 23 => aRem env.length x y a b
  | 24 => some (aAnd 0 a b)
  | 25 => some (aOrI a b)
  | 26 => some (.inr (fI, []))
  | 27 => some (aAnd 1 a b)
  | 28 => some (.inr (fL, []))
  | 29 => some (.inr (fL, []))
  | 30 => some (aShl 0 a b)
  | 31 => some (aShr 0 a b)
  | 32 => some (aShl 1 a b)
  | 33 => some (aShr 1 a b)
  | 69 => some (aMin env.length x y a b)
  | 70 => some (aMax env.length x y a b)
  | 71 => some (aMin env.length x y a b)
  | 72 => some (aMax env.length x y a b)
  | _ => none
def arIn (lo hi : Int) (r : AR) : Bool := match r with
  | .inl _ => true
  | .inr q => decide (lo ≤ q.1.1) && decide (q.1.2.1 ≤ hi)
/-- nothing lies between its bounds: that can't be -/
def arEmp (r : AR) : Bool := match r with
  | .inl _ => false
  | .inr q => decide (q.1.2.1 < q.1.1)
def wid (S : List Vl) : Nat := match S with
  | [] => 0
  | v :: r => vcat v + wid r
theorem wid_of (ρ : Nat → Int) (S : List Vl) : ((cS ρ S).map mcat).sum = wid S := by
  induction S with
  | nil => rfl
  | cons v r ih =>
    show (mcat (cv ρ v) :: (cS ρ r).map mcat).sum = _
    rw [List.sum_cons, ih]
    rfl
/-- two numbers are taken and one is put -/
def xBin (op : Nat) (f : Fr) (fs : List Fr) (env : List Iv) (dc : Dc) (me : Mo) : Option (List St) := match fS f with
  | y :: x :: S => if Nat.beq x.1 (tBin op) && (Nat.beq y.1 (tBin2 op) && (Nat.ble op 68 || Nat.ble (wid S) 8)) then (match ivOf env x, ivOf env y with
    | some a, some b => (match aBin op env dc x y a b with
      | some r => if arIn (fT (tBin op)).1 (fT (tBin op)).2.1 r || !(Nat.ble 20 op && Nat.ble op 23) then (if arEmp r then some [] else some [putR f fs env dc me (fI' f + 1) (fL' f) S (tBin op) r]) else none
      | none => none)
    | _, _ => none) else none
  | _ => none
def aUn (op : Nat) (x : Vl) (a : Iv) : Option AR := match op with
  | 15 => some (aNeg 0 x a)
  | 19 => some (aNeg 1 x a)
  | 35 => some (.inl (1, x.2.1, x.2.2))
  | 36 => some (if inT 0 a.1 a.2.1 then .inl (0, x.2.1, x.2.2) else .inr (fI, []))
  | 37 => some (if decide (0 ≤ a.1) && decide (a.2.1 < 65536) then .inl (0, x.2.1, x.2.2) else .inr ((0, 65535, 0), []))
  | 38 => if decide (-128 ≤ a.1) && decide (a.2.1 ≤ 127) then some (.inl (0, x.2.1, x.2.2)) else none
  | _ => none
def tUn (op : Nat) : Nat := if Nat.beq op 19 || Nat.beq op 36 then 1 else 0
def tUn2 (op : Nat) : Nat := if Nat.beq op 19 || Nat.beq op 35 then 1 else 0
def xUn (op : Nat) (f : Fr) (fs : List Fr) (env : List Iv) (dc : Dc) (me : Mo) : Option (List St) := match fS f with
  | x :: S => if Nat.beq x.1 (tUn op) then (match ivOf env x with
    | some a => (match aUn op x a with
      | some r => some [putR f fs env dc me (fI' f + 1) (fL' f) S (tUn2 op) r]
      | none => none)
    | none => none) else none
  | _ => none
section CG
variable {E : En} {Q0 : MO → MH → Prop} {h0 : MH} {ρ : Nat → Int} {h : MH} {f : Fr} {fs : List Fr} {env : List Iv} {dc : Dc} {me : Mo} {ss : List St} {pc : Nat} {z : Int} {a b c : Nat}
/-- what the instruction asks, of the top frame -/
def Ask (Q0 : MO → MH → Prop) (ρ : Nat → Int) (f : Fr) (fs : List Fr) (h : MH) (mi : MI) : Prop := wp1 (pgT (fM f)) (fI' f) mi (cL ρ (fL' f)) (cS ρ (fS f)) h (kMW (kT (fM f)) (SemK Q0 ρ fs) (fC f) (fO f) (pgT (fM f))) (SemK Q0 ρ fs)
theorem tl_lt {n : Nat} {v : Vl} {S S0 : List Vl} (e : S0 = v :: S) (h : ∀ v ∈ S0, v.2.1 < n) : v.2.1 < n ∧ ∀ v ∈ S, v.2.1 < n := ⟨h v (e ▸ List.mem_cons_self), fun u hu => h u (e ▸ List.mem_cons_of_mem _ hu)⟩
theorem one {s : St} (k : ∀ t ∈ [s], Sound E Q0 h0 t) : Sound E Q0 h0 s := k s List.mem_cons_self
theorem Inv.L (I : Inv E Q0 h0 ρ h (f :: fs, env, dc, me)) : ∀ q ∈ fL' f, q.2.2.1 < env.length := I.2.2.2.2.2.1.2.1
theorem Inv.S (I : Inv E Q0 h0 ρ h (f :: fs, env, dc, me)) : ∀ v ∈ fS f, v.2.1 < env.length := I.2.2.2.2.2.1.2.2.1
theorem xBin_of (I : Inv E Q0 h0 ρ h (f :: fs, env, dc, me)) (op : Nat) (hx : xBin op f fs env dc me = some ss) (k : ∀ s ∈ ss, Sound E Q0 h0 s) : Ask Q0 ρ f fs h (pc, op, z, a, b, c) := by
  unfold xBin at hx
  cases eS : fS f with
  | nil => rw [eS] at hx; cases hx
  | cons y S1 =>
    cases S1 with
    | nil => rw [eS] at hx; cases hx
    | cons x S =>
      rw [eS] at hx
      replace hx : (if Nat.beq x.1 (tBin op) && (Nat.beq y.1 (tBin2 op) && (Nat.ble op 68 || Nat.ble (wid S) 8)) then (match ivOf env x, ivOf env y with
        | some a, some b => (match aBin op env dc x y a b with
          | some r => if arIn (fT (tBin op)).1 (fT (tBin op)).2.1 r || !(Nat.ble 20 op && Nat.ble op 23) then (if arEmp r then some [] else some [putR f fs env dc me (fI' f + 1) (fL' f) S (tBin op) r]) else none
          | none => none)
        | _, _ => none) else none) = some ss := hx
      split at hx
      · next q =>
        rw [Bool.and_eq_true, Bool.and_eq_true] at q
        obtain ⟨q1, q2, q3⟩ := q
        have q1 := Nat.eq_of_beq_eq_true q1
        have q2 := Nat.eq_of_beq_eq_true q2
        have hS0 := I.S
        rw [eS] at hS0
        have hS : ∀ v ∈ S, v.2.1 < env.length := fun v hv => hS0 v (List.mem_cons_of_mem _ (List.mem_cons_of_mem _ hv))
        cases ea : ivOf env x with
        | none => rw [ea] at hx; cases hx
        | some A =>
          cases eb : ivOf env y with
          | none => rw [ea, eb] at hx; cases hx
          | some B =>
            rw [ea, eb] at hx
            replace hx : (match aBin op env dc x y A B with
              | some r => if arIn (fT (tBin op)).1 (fT (tBin op)).2.1 r || !(Nat.ble 20 op && Nat.ble op 23) then (if arEmp r then some [] else some [putR f fs env dc me (fI' f + 1) (fL' f) S (tBin op) r]) else none
              | none => none) = some ss := hx
            cases er : aBin op env dc x y A B with
            | none => rw [er] at hx; cases hx
            | some r =>
              rw [er] at hx
              replace hx : (if arIn (fT (tBin op)).1 (fT (tBin op)).2.1 r || !(Nat.ble 20 op && Nat.ble op 23) then (if arEmp r then some [] else some [putR f fs env dc me (fI' f + 1) (fL' f) S (tBin op) r]) else none) = some ss := hx
              split at hx
              · next q4 =>
                have go : ∀ (t : Nat) (w : Int) (hr : AROk E.1 ρ env.length t w r) (et : tBin op = t), MW (kT (fM f)) (SemK Q0 ρ fs) (fC f) (fO f) (pcA (pgT (fM f)) (fI' f + 1)) (cL ρ (fL' f)) ((t, w) :: cS ρ S) h := by
                  intro t w hr et
                  split at hx
                  · next qe =>
                    exfalso
                    unfold arEmp at qe
                    split at qe
                    · cases qe
                    · next p =>
                      have qe := of_decide_eq_true qe
                      have h1 := hr.1.1
                      have h2 := hr.1.2.1
                      omega
                  · cases hx
                    have k := one k
                    exact goPut I (i := fI' f + 1) (L := fL' f) (S := S) (z := w) (t := t) hr I.L hS (et ▸ k)
                clear hx
                unfold Ask
                rw [eS]
                have rng : ∀ (t : Nat) (w : Int), (AROk E.1 ρ env.length t w r) → (arIn (fT t).1 (fT t).2.1 r = true) → (∀ v, r ≠ .inl v) → (fT t).1 ≤ w ∧ w ≤ (fT t).2.1 := fun t w hr ha hn => by
                  cases r with
                  | inl v => exact absurd rfl (hn v)
                  | inr p =>
                    have ha : (decide ((fT t).1 ≤ p.1.1) && decide (p.1.2.1 ≤ (fT t).2.1)) = true := ha
                    rw [Bool.and_eq_true] at ha
                    have a1 := of_decide_eq_true ha.1
                    have a2 := of_decide_eq_true ha.2
                    have h1 := hr.1.1
                    have h2 := hr.1.2.1
                    omega
                have hdiv : ∀ t, aDiv t env.length x A B = some r → ∀ v, r ≠ .inl v := fun t e v e2 => by
                  rw [e2] at e
                  unfold aDiv at e
                  split at e
                  · split at e
                    · cases e
                    · split at e <;> cases e
                  · split at e <;> cases e
                have hrem : aRem env.length x y A B = some r → ∀ v, r ≠ .inl v := fun e v e2 => by
                  rw [e2] at e
                  unfold aRem at e
                  split at e
                  · split at e <;> cases e
                  · split at e <;> cases e
                have hw : (Nat.ble op 68 = true ∨ ((cS ρ S).map mcat).sum ≤ 8) := by
                  rw [Bool.or_eq_true] at q3
                  rcases q3 with q3 | q3
                  · exact Or.inl q3
                  · rw [wid_of]; exact Or.inr (Nat.le_of_ble_eq_true q3)
                match op, er, q1, q2, q4, go, hw with
                | 12, er, q1, q2, q4, go, hw => cases er; exact ⟨q1, q2, go 0 _ (aAdd_of I.1 ea eb) rfl⟩
                | 13, er, q1, q2, q4, go, hw => cases er; exact ⟨q1, q2, go 0 _ (aSub_of I.1 I.2.1 ea eb) rfl⟩
                | 14, er, q1, q2, q4, go, hw => cases er; exact ⟨q1, q2, go 0 _ (aMul_of I.1 ea eb) rfl⟩
                | 16, er, q1, q2, q4, go, hw => cases er; exact ⟨q1, q2, go 1 _ (aAdd_of I.1 ea eb) rfl⟩
                | 17, er, q1, q2, q4, go, hw => cases er; exact ⟨q1, q2, go 1 _ (aSub_of I.1 I.2.1 ea eb) rfl⟩
                | 18, er, q1, q2, q4, go, hw => cases er; exact ⟨q1, q2, go 1 _ (aMul_of I.1 ea eb) rfl⟩
                | 20, er, q1, q2, q4, go, hw =>
                  have p := aDiv_of I.1 ea eb er
                  have g := rng 0 _ p.2 (by rw [Bool.or_eq_true] at q4; exact q4.resolve_right (by decide)) (hdiv 0 er)
                  exact ⟨q1, q2, p.1, ⟨g.1, g.2⟩, go 0 _ p.2 rfl⟩
                | 21, er, q1, q2, q4, go, hw =>
                  have p := aRem_of (t := 0) I.1 ea eb er
                  have g := rng 0 _ p.2 (by rw [Bool.or_eq_true] at q4; exact q4.resolve_right (by decide)) (hrem er)
                  exact ⟨q1, q2, p.1, ⟨g.1, g.2⟩, go 0 _ p.2 rfl⟩
                | 22, er, q1, q2, q4, go, hw =>
                  have p := aDiv_of I.1 ea eb er
                  have g := rng 1 _ p.2 (by rw [Bool.or_eq_true] at q4; exact q4.resolve_right (by decide)) (hdiv 1 er)
                  exact ⟨q1, q2, p.1, ⟨g.1, g.2⟩, go 1 _ p.2 rfl⟩
                | 23, er, q1, q2, q4, go, hw =>
                  have p := aRem_of (t := 1) I.1 ea eb er
                  have g := rng 1 _ p.2 (by rw [Bool.or_eq_true] at q4; exact q4.resolve_right (by decide)) (hrem er)
                  exact ⟨q1, q2, p.1, ⟨g.1, g.2⟩, go 1 _ p.2 rfl⟩
                | 24, er, q1, q2, q4, go, hw => cases er; exact ⟨q1, q2, go 0 _ (aAndI_of I.1 ea eb) rfl⟩
                | 25, er, q1, q2, q4, go, hw => cases er; exact ⟨q1, q2, go 0 _ (aOrI_of I.1 ea eb) rfl⟩
                | 26, er, q1, q2, q4, go, hw => cases er; exact ⟨q1, q2, go 0 _ ⟨fI_any _, DcOk.nil _ _⟩ rfl⟩
                | 27, er, q1, q2, q4, go, hw => cases er; exact ⟨q1, q2, go 1 _ (aAndL_of I.1 ea eb) rfl⟩
                | 28, er, q1, q2, q4, go, hw => cases er; exact ⟨q1, q2, go 1 _ ⟨fL_any _, DcOk.nil _ _⟩ rfl⟩
                | 29, er, q1, q2, q4, go, hw => cases er; exact ⟨q1, q2, go 1 _ ⟨fL_any _, DcOk.nil _ _⟩ rfl⟩
                | 30, er, q1, q2, q4, go, hw => cases er; exact ⟨q1, q2, go 0 _ (aShlI_of I.1 ea eb) rfl⟩
                | 31, er, q1, q2, q4, go, hw => cases er; exact ⟨q1, q2, go 0 _ (aShrI_of I.1 ea eb) rfl⟩
                | 32, er, q1, q2, q4, go, hw => cases er; exact ⟨q1, q2, go 1 _ (aShlL_of I.1 ea eb) rfl⟩
                | 33, er, q1, q2, q4, go, hw => cases er; exact ⟨q1, q2, go 1 _ (aShrL_of I.1 ea eb) rfl⟩
                | 69, er, q1, q2, q4, go, hw => cases er; exact ⟨q1, q2, hw.resolve_left (by decide), go 0 _ (aMin_of I.1 ea eb) rfl⟩
                | 70, er, q1, q2, q4, go, hw => cases er; exact ⟨q1, q2, hw.resolve_left (by decide), go 0 _ (aMax_of I.1 ea eb) rfl⟩
                | 71, er, q1, q2, q4, go, hw => cases er; exact ⟨q1, q2, hw.resolve_left (by decide), go 1 _ (aMin_of I.1 ea eb) rfl⟩
                | 72, er, q1, q2, q4, go, hw => cases er; exact ⟨q1, q2, hw.resolve_left (by decide), go 1 _ (aMax_of I.1 ea eb) rfl⟩
                | 0, er, _, _, _, _, _ => cases er
                | 1, er, _, _, _, _, _ => cases er
                | 2, er, _, _, _, _, _ => cases er
                | 3, er, _, _, _, _, _ => cases er
                | 4, er, _, _, _, _, _ => cases er
                | 5, er, _, _, _, _, _ => cases er
                | 6, er, _, _, _, _, _ => cases er
                | 7, er, _, _, _, _, _ => cases er
                | 8, er, _, _, _, _, _ => cases er
                | 9, er, _, _, _, _, _ => cases er
                | 10, er, _, _, _, _, _ => cases er
                | 11, er, _, _, _, _, _ => cases er
                | 15, er, _, _, _, _, _ => cases er
                | 19, er, _, _, _, _, _ => cases er
                | 34, er, _, _, _, _, _ => cases er
                | 35, er, _, _, _, _, _ => cases er
                | 36, er, _, _, _, _, _ => cases er
                | 37, er, _, _, _, _, _ => cases er
                | 38, er, _, _, _, _, _ => cases er
                | 39, er, _, _, _, _, _ => cases er
                | 40, er, _, _, _, _, _ => cases er
                | 41, er, _, _, _, _, _ => cases er
                | 42, er, _, _, _, _, _ => cases er
                | 43, er, _, _, _, _, _ => cases er
                | 44, er, _, _, _, _, _ => cases er
                | 45, er, _, _, _, _, _ => cases er
                | 46, er, _, _, _, _, _ => cases er
                | 47, er, _, _, _, _, _ => cases er
                | 48, er, _, _, _, _, _ => cases er
                | 49, er, _, _, _, _, _ => cases er
                | 50, er, _, _, _, _, _ => cases er
                | 51, er, _, _, _, _, _ => cases er
                | 52, er, _, _, _, _, _ => cases er
                | 53, er, _, _, _, _, _ => cases er
                | 54, er, _, _, _, _, _ => cases er
                | 55, er, _, _, _, _, _ => cases er
                | 56, er, _, _, _, _, _ => cases er
                | 57, er, _, _, _, _, _ => cases er
                | 58, er, _, _, _, _, _ => cases er
                | 59, er, _, _, _, _, _ => cases er
                | 60, er, _, _, _, _, _ => cases er
                | 61, er, _, _, _, _, _ => cases er
                | 62, er, _, _, _, _, _ => cases er
                | 63, er, _, _, _, _, _ => cases er
                | 64, er, _, _, _, _, _ => cases er
                | 65, er, _, _, _, _, _ => cases er
                | 66, er, _, _, _, _, _ => cases er
                | 67, er, _, _, _, _, _ => cases er
                | 68, er, _, _, _, _, _ => cases er
                | n + 73, er, _, _, _, _, _ => cases er
              · cases hx
      · cases hx
theorem xUn_of (I : Inv E Q0 h0 ρ h (f :: fs, env, dc, me)) (op : Nat) (hx : xUn op f fs env dc me = some ss) (k : ∀ s ∈ ss, Sound E Q0 h0 s) : Ask Q0 ρ f fs h (pc, op, z, a, b, c) := by
  unfold xUn at hx
  cases eS : fS f with
  | nil => rw [eS] at hx; cases hx
  | cons x S =>
    rw [eS] at hx
    replace hx : (if Nat.beq x.1 (tUn op) then (match ivOf env x with
      | some a => (match aUn op x a with
        | some r => some [putR f fs env dc me (fI' f + 1) (fL' f) S (tUn2 op) r]
        | none => none)
      | none => none) else none) = some ss := hx
    split at hx
    · next q =>
      have q1 := Nat.eq_of_beq_eq_true q
      have hS0 := tl_lt eS I.S
      cases ea : ivOf env x with
      | none => rw [ea] at hx; cases hx
      | some A =>
        rw [ea] at hx
        replace hx : (match aUn op x A with
          | some r => some [putR f fs env dc me (fI' f + 1) (fL' f) S (tUn2 op) r]
          | none => none) = some ss := hx
        cases er : aUn op x A with
        | none => rw [er] at hx; cases hx
        | some r =>
          rw [er] at hx
          cases hx
          have k := one k
          have kA := ivOf_of I.1 ea
          have go := fun (t : Nat) (w : Int) (hr : AROk E.1 ρ env.length t w r) (et : tUn2 op = t) => goPut I (i := fI' f + 1) (L := fL' f) (S := S) (z := w) (t := t) hr I.L hS0.2 (et ▸ k)
          unfold Ask
          rw [eS]
          match op, er, q1, go with
          | 15, er, q1, go => cases er; exact ⟨q1, go 0 _ (aNeg_of I.1 ea) rfl⟩
          | 19, er, q1, go => cases er; exact ⟨q1, go 1 _ (aNeg_of I.1 ea) rfl⟩
          | 35, er, q1, go => cases er; exact ⟨q1, go 1 _ ⟨rfl, hS0.1, rfl⟩ rfl⟩
          | 36, er, q1, go =>
            cases er
            refine ⟨q1, go 0 _ ?_ rfl⟩
            split
            · next q => exact ⟨rfl, hS0.1, ((inT_of q kA.1 kA.2.1).1).symm⟩
            · exact ⟨fT_wr E.1 0 _, DcOk.nil _ _⟩
          | 37, er, q1, go =>
            cases er
            refine ⟨q1, go 0 _ ?_ rfl⟩
            split
            · next q =>
              rw [Bool.and_eq_true] at q
              have e1 := of_decide_eq_true q.1
              have e2 := of_decide_eq_true q.2
              have k1 := kA.1
              have k2 := kA.2.1
              refine ⟨rfl, hS0.1, ?_⟩
              show ρ x.2.1 + x.2.2 = (ρ x.2.1 + x.2.2) % 65536
              omega
            · refine ⟨⟨?_, ?_, fun q => absurd rfl q⟩, DcOk.nil _ _⟩
              · show 0 ≤ (ρ x.2.1 + x.2.2) % 65536
                omega
              · show (ρ x.2.1 + x.2.2) % 65536 ≤ 65535
                omega
          | 38, er, q1, go =>
            replace er : (if decide (-128 ≤ A.1) && decide (A.2.1 ≤ 127) then some (.inl (0, x.2.1, x.2.2)) else none) = some r := er
            split at er
            · next q =>
              cases er
              rw [Bool.and_eq_true] at q
              have e1 := of_decide_eq_true q.1
              have e2 := of_decide_eq_true q.2
              have k1 := kA.1
              have k2 := kA.2.1
              have := go 0 (ρ x.2.1 + x.2.2) ⟨rfl, hS0.1, rfl⟩ rfl
              have e : cv ρ x = (0, ρ x.2.1 + x.2.2) := by unfold cv; rw [q1]; rfl
              refine ⟨q1, ⟨by show -128 ≤ ρ x.2.1 + x.2.2; omega, by show ρ x.2.1 + x.2.2 ≤ 127; omega⟩, ?_⟩
              show MW _ _ _ _ _ _ (cv ρ x :: cS ρ S) h
              rw [e]
              exact this
            · cases er
          | 0, er, _, _ => cases er
          | 1, er, _, _ => cases er
          | 2, er, _, _ => cases er
          | 3, er, _, _ => cases er
          | 4, er, _, _ => cases er
          | 5, er, _, _ => cases er
          | 6, er, _, _ => cases er
          | 7, er, _, _ => cases er
          | 8, er, _, _ => cases er
          | 9, er, _, _ => cases er
          | 10, er, _, _ => cases er
          | 11, er, _, _ => cases er
          | 12, er, _, _ => cases er
          | 13, er, _, _ => cases er
          | 14, er, _, _ => cases er
          | 16, er, _, _ => cases er
          | 17, er, _, _ => cases er
          | 18, er, _, _ => cases er
          | 20, er, _, _ => cases er
          | 21, er, _, _ => cases er
          | 22, er, _, _ => cases er
          | 23, er, _, _ => cases er
          | 24, er, _, _ => cases er
          | 25, er, _, _ => cases er
          | 26, er, _, _ => cases er
          | 27, er, _, _ => cases er
          | 28, er, _, _ => cases er
          | 29, er, _, _ => cases er
          | 30, er, _, _ => cases er
          | 31, er, _, _ => cases er
          | 32, er, _, _ => cases er
          | 33, er, _, _ => cases er
          | 34, er, _, _ => cases er
          | n + 39, er, _, _ => cases er
    · cases hx
end CG
