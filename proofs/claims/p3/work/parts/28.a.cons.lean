/-! constructors run by numbers: a heap told by numbers, one step of the plain instructions -/
abbrev CC : Type := Nat × Nat × Nat × List (Nat × Int)
/-- how many cells, how many elements so far, the cells made, newest first -/
abbrev CH : Type := Nat × Nat × List CC
def clk : List (Nat × Int) → Nat → Option Int
  | [], _ => none
  | p :: l, j => bif Nat.beq p.1 j then some p.2 else clk l j
/-- what lies there at first: 0; nothing; a field's beginning; rows one behind the other -/
def cdf (k n t : Nat) (j : Nat) : Int := match t with
  | 0 => 0
  | 1 => -1
  | 2 => mdef (mft (k - 16) j)
  | b + 3 => if j < n then ((b + j : Nat) : Int) else -1
def cvl (c : CC) (j : Nat) : Int := match clk c.2.2.2 j with
  | some v => v
  | none => cdf c.1 c.2.1 c.2.2.1 j
def cMC (c : CC) : MC := (c.1, c.2.1, cvl c)
def cAt (H : CH) (a : Nat) : Option CC := bif Nat.blt a 4 then none else bif Nat.blt a H.1 then zget H.2.2 (H.1 - 1 - a) else none
def cMH (hb : MH) (H : CH) : MH := (H.1, fun a => match cAt H a with
  | some c => cMC c
  | none => hb.2 a)
theorem cMH_at {hb : MH} {H : CH} {a : Nat} {c : CC} (e : cAt H a = some c) : (cMH hb H).2 a = cMC c := by
  show (match cAt H a with
    | some c => cMC c
    | none => hb.2 a) = _
  rw [e]
theorem cAt_lt {H : CH} {a : Nat} {c : CC} (e : cAt H a = some c) : 4 ≤ a ∧ a < H.1 := by
  unfold cAt at e
  cases e1 : Nat.blt a 4 with
  | true => rw [e1] at e; cases e
  | false =>
    rw [e1, cond_false] at e
    cases e2 : Nat.blt a H.1 with
    | false => rw [e2] at e; cases e
    | true =>
      refine ⟨Nat.le_of_not_lt fun q => ?_, bltN e2⟩
      have : Nat.blt a 4 = true := Nat.ble_eq_true_of_le q
      rw [this] at e1
      cases e1
/-- one more cell -/
theorem cMH_new {hb : MH} {H : CH} (h4 : 4 ≤ H.1) (c : CC) (n : Nat) : cMH hb (H.1 + 1, n, c :: H.2.2) = hnew (cMH hb H) (cMC c) := by
  unfold hnew
  refine Prod.ext rfl (funext fun a => ?_)
  show (match cAt (H.1 + 1, n, c :: H.2.2) a with
    | some c => cMC c
    | none => hb.2 a) = if a = H.1 then cMC c else (cMH hb H).2 a
  by_cases e : a = H.1
  · subst e
    rw [if_pos rfl]
    have : cAt (H.1 + 1, n, c :: H.2.2) H.1 = some c := by
      unfold cAt
      have e1 : Nat.blt H.1 4 = false := by
        cases z : Nat.blt H.1 4 with
        | false => rfl
        | true => have := bltN z; omega
      have e2 : Nat.blt H.1 (H.1 + 1) = true := Nat.ble_eq_true_of_le (Nat.le_refl _)
      rw [e1, cond_false, e2, cond_true, show H.1 + 1 - 1 - H.1 = 0 by omega]
      rfl
    rw [this]
  · rw [if_neg e]
    show _ = (match cAt H a with
      | some c => cMC c
      | none => hb.2 a)
    have : cAt (H.1 + 1, n, c :: H.2.2) a = cAt H a := by
      unfold cAt
      cases e1 : Nat.blt a 4 with
      | true => rfl
      | false =>
        rw [cond_false, cond_false]
        cases e2 : Nat.blt a H.1 with
        | true =>
          have q := bltN e2
          have e3 : Nat.blt a (H.1 + 1) = true := Nat.ble_eq_true_of_le (by omega)
          rw [e3, cond_true, cond_true, show H.1 + 1 - 1 - a = (H.1 - 1 - a) + 1 by omega]
          rfl
        | false =>
          have e3 : Nat.blt a (H.1 + 1) = false := by
            cases z : Nat.blt a (H.1 + 1) with
            | false => rfl
            | true =>
              have q := bltN z
              have : Nat.blt a H.1 = true := Nat.ble_eq_true_of_le (by omega)
              rw [this] at e2
              cases e2
          rw [e3]
          rfl
    rw [this]
def cUp : List CC → Nat → Nat → Int → List CC
  | [], _, _, _ => []
  | c :: l, n, j, v => bif Nat.beq n 0 then (c.1, c.2.1, c.2.2.1, (j, v) :: c.2.2.2) :: l else c :: cUp l (n - 1) j v
def cSt (H : CH) (a j : Nat) (v : Int) : CH := (H.1, H.2.1, cUp H.2.2 (H.1 - 1 - a) j v)
theorem cUp_get {j : Nat} {v : Int} : ∀ {l : List CC} {n m : Nat} {c : CC}, zget l n = some c → zget (cUp l n j v) m = if m = n then some (c.1, c.2.1, c.2.2.1, (j, v) :: c.2.2.2) else zget l m
  | [], _, _, _, h => by cases h
  | x :: l, n, m, c, h => by
    unfold cUp
    cases e : Nat.beq n 0 with
    | true =>
      have e0 := beqN e
      subst e0
      cases h
      rw [cond_true]
      by_cases q : m = 0
      · subst q; rw [if_pos rfl]; rfl
      · rw [if_neg q]
        have : Nat.beq m 0 = false := by
          cases z : Nat.beq m 0 with
          | false => rfl
          | true => exact absurd (beqN z) q
        unfold zget
        rw [this]
        rfl
    | false =>
      have e0 := beqN_no e
      rw [cond_false]
      have h : zget l (n - 1) = some c := by
        unfold zget at h
        rw [e] at h
        exact h
      by_cases q : m = 0
      · subst q
        rw [if_neg (fun z => e0 z.symm)]
        rfl
      · have w : Nat.beq m 0 = false := by
          cases z : Nat.beq m 0 with
          | false => rfl
          | true => exact absurd (beqN z) q
        have r := cUp_get (j := j) (v := v) (m := m - 1) h
        unfold zget
        rw [w]
        show zget (cUp l (n - 1) j v) (m - 1) = if m = n then _ else zget l (m - 1)
        rw [r]
        by_cases p : m = n
        · rw [if_pos p, if_pos (by omega)]
        · rw [if_neg p, if_neg (by omega)]
theorem cMH_set {hb : MH} {H : CH} {a j : Nat} {v : Int} {c : CC} (e : cAt H a = some c) : cMH hb (cSt H a j v) = hset (cMH hb H) a j v := by
  have hl := cAt_lt e
  have e' := e
  unfold cAt at e'
  have z1 : ∀ {b : Nat}, 4 ≤ b → Nat.blt b 4 = false := fun {b} hb => by
    cases z : Nat.blt b 4 with
    | false => rfl
    | true => have := bltN z; omega
  have z2 : ∀ {b : Nat}, b < H.1 → Nat.blt b H.1 = true := fun hb => Nat.ble_eq_true_of_le hb
  rw [z1 hl.1, cond_false, z2 hl.2, cond_true] at e'
  unfold hset
  refine Prod.ext rfl (funext fun b => ?_)
  show (match cAt (cSt H a j v) b with
    | some c => cMC c
    | none => hb.2 b) = if b = a then (((cMH hb H).2 a).1, ((cMH hb H).2 a).2.1, fun i => if i = j then v else ((cMH hb H).2 a).2.2 i) else (cMH hb H).2 b
  by_cases q : b = a
  · subst q
    rw [if_pos rfl, cMH_at e]
    have : cAt (cSt H b j v) b = some (c.1, c.2.1, c.2.2.1, (j, v) :: c.2.2.2) := by
      unfold cAt
      show (bif Nat.blt b 4 then none else bif Nat.blt b H.1 then zget (cUp H.2.2 (H.1 - 1 - b) j v) (H.1 - 1 - b) else none) = _
      rw [z1 hl.1, cond_false, z2 hl.2, cond_true, cUp_get e', if_pos rfl]
    rw [this]
    show (c.1, c.2.1, cvl (c.1, c.2.1, c.2.2.1, (j, v) :: c.2.2.2)) = (c.1, c.2.1, fun i => if i = j then v else cvl c i)
    refine congrArg (fun f => (c.1, c.2.1, f)) (funext fun i => ?_)
    unfold cvl
    show (match (bif Nat.beq j i then some v else clk c.2.2.2 i) with
      | some v => v
      | none => cdf c.1 c.2.1 c.2.2.1 i) = _
    cases w : Nat.beq j i with
    | true => rw [if_pos (beqN w).symm]; rfl
    | false => rw [if_neg (fun z => beqN_no w z.symm)]; rfl
  · rw [if_neg q]
    show _ = (match cAt H b with
      | some c => cMC c
      | none => hb.2 b)
    have : cAt (cSt H a j v) b = cAt H b := by
      unfold cAt
      show (bif Nat.blt b 4 then none else bif Nat.blt b H.1 then zget (cUp H.2.2 (H.1 - 1 - a) j v) (H.1 - 1 - b) else none) = _
      cases w : Nat.blt b 4 with
      | true => rfl
      | false =>
        rw [cond_false, cond_false]
        cases w2 : Nat.blt b H.1 with
        | false => rfl
        | true =>
          have := bltN w2
          rw [cond_true, cond_true, cUp_get e', if_neg (by omega)]
    rw [this]
def r32 (z : Int) : Bool := zIn (z + 2147483648) && zIn (2147483647 - z)
def r64 (z : Int) : Bool := zIn (z + 9223372036854775808) && zIn (9223372036854775807 - z)
theorem r32_of {z : Int} (h : r32 z = true) : -2147483648 ≤ z ∧ z ≤ 2147483647 := by
  obtain ⟨a, b⟩ := andB h
  have a := zIn_of a
  have b := zIn_of b
  omega
theorem r64_of {z : Int} (h : r64 z = true) : -9223372036854775808 ≤ z ∧ z ≤ 9223372036854775807 := by
  obtain ⟨a, b⟩ := andB h
  have a := zIn_of a
  have b := zIn_of b
  omega
def ieq (x y : Int) : Bool := zIn (x - y) && zIn (y - x)
theorem ieq_of {x y : Int} (h : ieq x y = true) : x = y := by
  obtain ⟨a, b⟩ := andB h
  have a := zIn_of a
  have b := zIn_of b
  omega
theorem zIn_to {z : Int} (h : 0 ≤ z) : zIn z = true := by
  cases z with
  | ofNat n => rfl
  | negSucc n => exact absurd h (Int.not_le.mpr (Int.negSucc_lt_zero n))
theorem zIn_no {z : Int} (h : zIn z = false) : ¬ 0 ≤ z := fun q => by
  have : zIn z = true := zIn_to q
  rw [this] at h
  cases h
theorem ieq_no {x y : Int} (h : ieq x y = false) : x ≠ y := fun e => by
  unfold ieq at h
  rw [e, Int.sub_self] at h
  cases h
def cndB (c : Nat) (x y : Int) : Bool := match c with
  | 0 => ieq x y
  | 1 => !(ieq x y)
  | 2 => zIn (y - x - 1)
  | 3 => zIn (x - y)
  | 4 => zIn (x - y - 1)
  | _ => zIn (y - x)
theorem cndB_of {c : Nat} {x y : Int} (h : cndB c x y = true) : cnd c x y := by
  unfold cndB at h
  unfold cnd
  split at h
  · exact ieq_of h
  · exact ieq_no (notB h)
  · have := zIn_of h; show x < y; omega
  · have := zIn_of h; show y ≤ x; omega
  · have := zIn_of h; show y < x; omega
  · next h0 h1 h2 h3 h4 => split <;> first | (exact absurd rfl h0) | (exact absurd rfl h1) | (exact absurd rfl h2) | (exact absurd rfl h3) | (exact absurd rfl h4) | (have := zIn_of h; show x ≤ y; omega)
theorem cndB_no {c : Nat} {x y : Int} (h : cndB c x y = false) : ¬ cnd c x y := by
  unfold cndB at h
  unfold cnd
  split at h
  · exact ieq_no h
  · intro q
    cases z : ieq x y with
    | true => exact q (ieq_of z)
    | false => rw [z] at h; cases h
  · have := zIn_no h; show ¬ x < y; omega
  · have := zIn_no h; show ¬ y ≤ x; omega
  · have := zIn_no h; show ¬ y < x; omega
  · next h0 h1 h2 h3 h4 => split <;> first | (exact absurd rfl h0) | (exact absurd rfl h1) | (exact absurd rfl h2) | (exact absurd rfl h3) | (exact absurd rfl h4) | (have := zIn_no h; show ¬ x ≤ y; omega)

/-- what an array holds there -/
def cRd (c : CC) (j : Nat) : Option Int := match clk c.2.2.2 j with
  | some v => some v
  | none => (match c.2.2.1 with
    | 0 => some 0
    | 1 => some (-1)
    | 2 => none
    | b + 3 => some (bif Nat.blt j c.2.1 then ((b + j : Nat) : Int) else -1))
theorem cRd_of {c : CC} {j : Nat} {v : Int} (h : cRd c j = some v) : cvl c j = v := by
  unfold cRd at h
  unfold cvl
  split at h
  · next w e => exact Option.some.inj h
  · next e =>
    split at h
    · next e2 => rw [e2]; exact Option.some.inj h
    · next e2 => rw [e2]; exact Option.some.inj h
    · cases h
    · next b e2 =>
      rw [e2]
      have h := Option.some.inj h
      show (if j < c.2.1 then ((b + j : Nat) : Int) else -1) = v
      cases z : Nat.blt j c.2.1 with
      | true => rw [z] at h; rw [if_pos (bltN z)]; exact h
      | false =>
        rw [z] at h
        rw [if_neg fun q => by
          have : Nat.blt j c.2.1 = true := Nat.ble_eq_true_of_le q
          rw [this] at z
          cases z]
        exact h
/-- what a field holds: its kind is told -/
def cRf (c : CC) (j kd : Nat) : Option Int := match clk c.2.2.2 j with
  | some v => some v
  | none => (match c.2.2.1 with
    | 2 => some (bif Nat.beq (tgo kd) 2 then -1 else 0)
    | _ => none)
theorem cRf_of {c : CC} {a j kd : Nat} {v : Int} (hk : c.1 = 16 + a) (hm : mft a j = tgo kd) (h : cRf c j kd = some v) : cvl c j = v := by
  unfold cRf at h
  unfold cvl
  split at h
  · next w e => exact Option.some.inj h
  · next e =>
    split at h
    · next e2 =>
      rw [e2]
      have h := Option.some.inj h
      show mdef (mft (c.1 - 16) j) = v
      rw [hk, show 16 + a - 16 = a by omega, hm]
      unfold mdef
      cases z : Nat.beq (tgo kd) 2 with
      | true => rw [z] at h; rw [if_pos (beqN z)]; exact h
      | false => rw [z] at h; rw [if_neg (beqN_no z)]; exact h
    · cases h
def cLd (t : Nat) (L : List (Nat × MV)) (a : Nat) : Option MV := match mlook L a with
  | some v => bif Nat.beq v.1 t && (!(Nat.beq t 2) || zIn v.2) then some v else none
  | none => none
theorem cLd_of {t : Nat} {L : List (Nat × MV)} {a : Nat} {v : MV} {S : List MV} {k : List MV → Prop} (h : cLd t L a = some v) (w : k (v :: S)) : sLd t L a S k := by
  unfold cLd at h
  unfold sLd
  split at h
  · next u e =>
    rw [e]
    cases z : (Nat.beq u.1 t && (!(Nat.beq t 2) || zIn u.2)) with
    | false => rw [z] at h; cases h
    | true =>
      rw [z] at h
      cases h
      obtain ⟨a1, a2⟩ := andB z
      refine ⟨beqN a1, fun q => ?_, w⟩
      rw [q] at a2
      exact zIn_of a2
  · cases h
/-- an element's place -/
def cIx (H : CH) (r i : MV) : Option CC := bif Nat.beq r.1 2 && (Nat.beq i.1 0 && (zIn r.2 && zIn i.2)) then (match cAt H r.2.toNat with
  | some c => bif Nat.blt i.2.toNat c.2.1 then some c else none
  | none => none) else none
theorem cIx_of {hb : MH} {H : CH} {r i : MV} {c : CC} (h : cIx H r i = some c) : r.1 = 2 ∧ i.1 = 0 ∧ sIdx (cMH hb H) r.2 i.2 ∧ 4 ≤ r.2.toNat ∧ cAt H r.2.toNat = some c := by
  unfold cIx at h
  cases z : (Nat.beq r.1 2 && (Nat.beq i.1 0 && (zIn r.2 && zIn i.2))) with
  | false => rw [z] at h; cases h
  | true =>
    rw [z, cond_true] at h
    obtain ⟨a1, a2⟩ := andB z
    obtain ⟨a2, a3⟩ := andB a2
    obtain ⟨a3, a4⟩ := andB a3
    have a3 := zIn_of a3
    have a4 := zIn_of a4
    split at h
    · next c' e =>
      cases w : Nat.blt i.2.toNat c'.2.1 with
      | false => rw [w] at h; cases h
      | true =>
        rw [w] at h
        cases h
        have hl := cAt_lt e
        refine ⟨beqN a1, beqN a2, ⟨a3, hl.2, a4, ?_⟩, hl.1, e⟩
        rw [cMH_at e]
        have := bltN w
        show i.2 < (c.2.1 : Int)
        omega
    · cases h
def mokB (k : Nat) (z : Int) : Bool := match k with
  | 0 => true
  | 1 => true
  | 2 => zIn z && zIn (1 - z)
  | 3 => zIn (z + 128) && zIn (127 - z)
  | 4 => zIn z && zIn (65535 - z)
  | _ => true
theorem mokB_of {k : Nat} {z : Int} (h : mokB k z = true) : k ≠ 0 → k ≠ 1 → mokE k z := by
  intro h0 h1
  unfold mokB at h
  unfold mokE
  split at h
  · exact absurd rfl h0
  · exact absurd rfl h1
  · obtain ⟨a, b⟩ := andB h; have a := zIn_of a; have b := zIn_of b; show 0 ≤ z ∧ z ≤ 1; omega
  · obtain ⟨a, b⟩ := andB h; have a := zIn_of a; have b := zIn_of b; show -128 ≤ z ∧ z ≤ 127; omega
  · obtain ⟨a, b⟩ := andB h; have a := zIn_of a; have b := zIn_of b; show 0 ≤ z ∧ z ≤ 65535; omega
  · next p0 p1 p2 p3 p4 => split <;> first | (exact absurd rfl p0) | (exact absurd rfl p1) | (exact absurd rfl p2) | (exact absurd rfl p3) | (exact absurd rfl p4) | trivial
def cAst (kd tg : Nat) (S : List MV) (H : CH) : Option (List MV × CH) := match S with
  | v :: i :: r :: S => (match cIx H r i with
    | some c => bif Nat.beq v.1 tg && (Nat.beq c.1 kd && mokB kd v.2) then some (S, cSt H r.2.toNat i.2.toNat v.2) else none
    | none => none)
  | _ => none
theorem cAst_of {hb : MH} {kd tg : Nat} {S S' : List MV} {H H' : CH} {k : List MV → MH → Prop} (h : cAst kd tg S H = some (S', H')) (w : k S' (cMH hb H')) : sAst kd tg S (cMH hb H) k := by
  unfold cAst at h
  split at h
  · next v i r S0 =>
    split at h
    · next c e =>
      cases z : (Nat.beq v.1 tg && (Nat.beq c.1 kd && mokB kd v.2)) with
      | false => rw [z] at h; cases h
      | true =>
        rw [z] at h
        cases h
        obtain ⟨a1, a2⟩ := andB z
        obtain ⟨a2, a3⟩ := andB a2
        obtain ⟨b1, b2, b3, b4, b5⟩ := cIx_of (hb := hb) e
        refine ⟨beqN a1, b2, b1, b3, b4, ?_, mokB_of a3, ?_⟩
        · rw [cMH_at b5]; exact beqN a2
        · rw [← cMH_set b5]; exact w
    · cases h
  · cases h
/-- one plain instruction -/
def cs1 (i : Nat) (mi : MI) (L : List (Nat × MV)) (S : List MV) (H : CH) : Option (Nat × List (Nat × MV) × List MV × CH) := match mi.2.1 with
  | 1 => some (i + 1, L, (0, mi.2.2.1) :: S, H)
  | 2 => some (i + 1, L, (1, mi.2.2.1) :: S, H)
  | 3 => (match cLd 0 L mi.2.2.2.1 with
    | some v => some (i + 1, L, v :: S, H)
    | none => none)
  | 4 => (match cLd 1 L mi.2.2.2.1 with
    | some v => some (i + 1, L, v :: S, H)
    | none => none)
  | 5 => (match cLd 2 L mi.2.2.2.1 with
    | some v => some (i + 1, L, v :: S, H)
    | none => none)
  | 7 => (match S with
    | v :: S => bif Nat.beq v.1 0 then some (i + 1, mput L mi.2.2.2.1 v, S, H) else none
    | _ => none)
  | 8 => (match S with
    | v :: S => bif Nat.beq v.1 1 then some (i + 1, mput2 L mi.2.2.2.1 v, S, H) else none
    | _ => none)
  | 11 => (match mlook L mi.2.2.2.1 with
    | some v => bif Nat.beq v.1 0 && r32 (v.2 + mi.2.2.1) then some (i + 1, mput L mi.2.2.2.1 (0, v.2 + mi.2.2.1), S, H) else none
    | none => none)
  | 12 => (match S with
    | v :: u :: S => bif Nat.beq u.1 0 && (Nat.beq v.1 0 && r32 (u.2 + v.2)) then some (i + 1, L, (0, u.2 + v.2) :: S, H) else none
    | _ => none)
  | 19 => (match S with
    | u :: S => bif Nat.beq u.1 1 && r64 (-u.2) then some (i + 1, L, (1, -u.2) :: S, H) else none
    | _ => none)
  | 22 => (match S with
    | v :: u :: S => bif Nat.beq u.1 1 && (Nat.beq v.1 1 && (!(ieq v.2 0) && r64 (u.2.tdiv v.2))) then some (i + 1, L, (1, u.2.tdiv v.2) :: S, H) else none
    | _ => none)
  | 23 => (match S with
    | v :: u :: S => bif Nat.beq u.1 1 && (Nat.beq v.1 1 && (!(ieq v.2 0) && r64 (u.2.tmod v.2))) then some (i + 1, L, (1, u.2.tmod v.2) :: S, H) else none
    | _ => none)
  | 36 => (match S with
    | u :: S => bif Nat.beq u.1 1 && r32 u.2 then some (i + 1, L, (0, u.2) :: S, H) else none
    | _ => none)
  | 39 => (match S with
    | u :: S => bif Nat.beq (mcat u) 1 then some (i + 1, L, u :: u :: S, H) else none
    | _ => none)
  | 42 => (match S with
    | v :: w :: S => bif Nat.beq (mcat v) 1 && Nat.beq (mcat w) 1 then some (i + 1, L, v :: w :: v :: S, H) else none
    | _ => none)
  | 45 => some (mi.2.2.2.1, L, S, H)
  | 46 => (match S with
    | u :: S => bif Nat.beq u.1 0 then (bif cndB mi.2.2.2.2.1 u.2 0 then some (mi.2.2.2.1, L, S, H) else some (i + 1, L, S, H)) else none
    | _ => none)
  | 47 => (match S with
    | v :: u :: S => bif Nat.beq u.1 0 && Nat.beq v.1 0 then (bif cndB mi.2.2.2.2.1 u.2 v.2 then some (mi.2.2.2.1, L, S, H) else some (i + 1, L, S, H)) else none
    | _ => none)
  | 48 => (match S with
    | v :: u :: S => bif Nat.beq u.1 1 && Nat.beq v.1 1 then (bif cndB mi.2.2.2.2.1 u.2 v.2 then some (mi.2.2.2.1, L, S, H) else some (i + 2, L, S, H)) else none
    | _ => none)
  | 49 => (match S with
    | r :: S => bif Nat.beq r.1 2 && zIn r.2 then (match cAt H r.2.toNat with
      | some c => bif Nat.beq c.1 (16 + mi.2.2.2.1) then (match cRf c mi.2.2.2.2.1 mi.2.2.2.2.2 with
        | some v => some (i + 1, L, (tgo mi.2.2.2.2.2, v) :: S, H)
        | none => none) else none
      | none => none) else none
    | _ => none)
  | 50 => (match S with
    | v :: r :: S => bif Nat.beq v.1 (tgo mi.2.2.2.2.2) && (Nat.beq r.1 2 && (zIn r.2 && (!(Nat.beq mi.2.2.2.2.2 4) || (zIn v.2 && zIn (1 - v.2))))) then (match cAt H r.2.toNat with
      | some c => bif Nat.beq c.1 (16 + mi.2.2.2.1) then some (i + 1, L, S, cSt H r.2.toNat mi.2.2.2.2.1 v.2) else none
      | none => none) else none
    | _ => none)
  | 55 => (match S with
    | j :: r :: S => (match cIx H r j with
      | some c => bif Nat.beq c.1 6 || (Nat.beq c.1 7 || Nat.beq c.1 8) then (match cRd c j.2.toNat with
        | some v => some (i + 1, L, (2, v) :: S, H)
        | none => none) else none
      | none => none)
    | _ => none)
  | 56 => (match cAst 0 0 S H with
    | some (S, H) => some (i + 1, L, S, H)
    | none => none)
  | 57 => (match cAst 1 1 S H with
    | some (S, H) => some (i + 1, L, S, H)
    | none => none)
  | 58 => (match S with
    | _ :: _ :: r :: _ => (match cAt H r.2.toNat with
      | some c => bif Nat.beq c.1 2 then (match cAst 2 0 S H with
        | some (S, H) => some (i + 1, L, S, H)
        | none => none) else (match cAst 3 0 S H with
        | some (S, H) => some (i + 1, L, S, H)
        | none => none)
      | none => none)
    | _ => none)
  | 60 => (match S with
    | r :: S => bif Nat.beq r.1 2 && zIn r.2 then (match cAt H r.2.toNat with
      | some c => bif Nat.blt c.1 16 && Nat.ble c.2.1 2147483647 then some (i + 1, L, (0, (c.2.1 : Int)) :: S, H) else none
      | none => none) else none
    | _ => none)
  | _ => none
theorem cs1_of {hb : MH} {P : MP} {i : Nat} {mi : MI} {L L' : List (Nat × MV)} {S S' : List MV} {H H' : CH} {i' : Nat} {k : MCt} {Q : MO → MH → Prop} (hft : mi.2.1 = 49 → mft mi.2.2.2.1 mi.2.2.2.2.1 = tgo mi.2.2.2.2.2) (e : cs1 i mi L S H = some (i', L', S', H')) (w : k i' L' S' (cMH hb H')) : wp1 P i mi L S (cMH hb H) k Q := by
  obtain ⟨pc, op, z, a, b, c⟩ := mi
  replace hft : op = 49 → mft a b = tgo c := hft
  unfold cs1 at e
  split at e
  · next h => replace h : op = 1 := h; subst h; cases e; exact w
  · next h => replace h : op = 2 := h; subst h; cases e; exact w
  · next h =>
    replace h : op = 3 := h; subst h
    split at e
    · next v q => cases e; exact cLd_of (k := fun S => k (i + 1) L S (cMH hb H)) q w
    · cases e
  · next h =>
    replace h : op = 4 := h; subst h
    split at e
    · next v q => cases e; exact cLd_of (k := fun S => k (i + 1) L S (cMH hb H)) q w
    · cases e
  · next h =>
    replace h : op = 5 := h; subst h
    split at e
    · next v q => cases e; exact cLd_of (k := fun S => k (i + 1) L S (cMH hb H)) q w
    · cases e
  · next h =>
    replace h : op = 7 := h; subst h
    split at e
    · next v S0 =>
      cases q : Nat.beq v.1 0 with
      | false => rw [q] at e; cases e
      | true => rw [q] at e; cases e; exact ⟨beqN q, w⟩
    · cases e
  · next h =>
    replace h : op = 8 := h; subst h
    split at e
    · next v S0 =>
      cases q : Nat.beq v.1 1 with
      | false => rw [q] at e; cases e
      | true => rw [q] at e; cases e; exact ⟨beqN q, w⟩
    · cases e
  · next h =>
    replace h : op = 11 := h; subst h
    split at e
    · next v q0 =>
      cases q : (Nat.beq v.1 0 && r32 (v.2 + z)) with
      | false =>
        replace e : (bif Nat.beq v.1 0 && r32 (v.2 + z) then some (i + 1, mput L a (0, v.2 + z), S, H) else none) = some (i', L', S', H') := e
        rw [q] at e; cases e
      | true =>
        replace e : (bif Nat.beq v.1 0 && r32 (v.2 + z) then some (i + 1, mput L a (0, v.2 + z), S, H) else none) = some (i', L', S', H') := e
        rw [q] at e
        cases e
        obtain ⟨q1, q2⟩ := andB q
        show (match mlook L a with
          | some v => v.1 = 0 ∧ k (i + 1) (mput L a (0, wrI (v.2 + z))) S (cMH hb H)
          | none => False)
        replace q0 : mlook L a = some v := q0
        rw [q0]
        refine ⟨beqN q1, ?_⟩
        rw [wrI_id (r32_of q2)]
        exact w
    · cases e
  · next h =>
    replace h : op = 12 := h; subst h
    split at e
    · next v u S0 =>
      cases q : (Nat.beq u.1 0 && (Nat.beq v.1 0 && r32 (u.2 + v.2))) with
      | false => rw [q] at e; cases e
      | true =>
        rw [q] at e; cases e
        obtain ⟨q1, q2⟩ := andB q
        obtain ⟨q2, q3⟩ := andB q2
        refine ⟨beqN q1, beqN q2, ?_⟩
        show k (i + 1) L ((0, wrI (u.2 + v.2)) :: _) (cMH hb H)
        rw [wrI_id (r32_of q3)]
        exact w
    · cases e
  · next h =>
    replace h : op = 19 := h; subst h
    split at e
    · next u S0 =>
      cases q : (Nat.beq u.1 1 && r64 (-u.2)) with
      | false => rw [q] at e; cases e
      | true =>
        rw [q] at e; cases e
        obtain ⟨q1, q3⟩ := andB q
        refine ⟨beqN q1, ?_⟩
        show k (i + 1) L ((1, wrL (-u.2)) :: _) (cMH hb H)
        rw [wrL_id (r64_of q3)]
        exact w
    · cases e
  · next h =>
    replace h : op = 22 := h; subst h
    split at e
    · next v u S0 =>
      cases q : (Nat.beq u.1 1 && (Nat.beq v.1 1 && (!(ieq v.2 0) && r64 (u.2.tdiv v.2)))) with
      | false => rw [q] at e; cases e
      | true =>
        rw [q] at e; cases e
        obtain ⟨q1, q2⟩ := andB q
        obtain ⟨q2, q3⟩ := andB q2
        obtain ⟨q3, q4⟩ := andB q3
        exact ⟨beqN q1, beqN q2, ieq_no (notB q3), r64_of q4, w⟩
    · cases e
  · next h =>
    replace h : op = 23 := h; subst h
    split at e
    · next v u S0 =>
      cases q : (Nat.beq u.1 1 && (Nat.beq v.1 1 && (!(ieq v.2 0) && r64 (u.2.tmod v.2)))) with
      | false => rw [q] at e; cases e
      | true =>
        rw [q] at e; cases e
        obtain ⟨q1, q2⟩ := andB q
        obtain ⟨q2, q3⟩ := andB q2
        obtain ⟨q3, q4⟩ := andB q3
        exact ⟨beqN q1, beqN q2, ieq_no (notB q3), r64_of q4, w⟩
    · cases e
  · next h =>
    replace h : op = 36 := h; subst h
    split at e
    · next u S0 =>
      cases q : (Nat.beq u.1 1 && r32 u.2) with
      | false => rw [q] at e; cases e
      | true =>
        rw [q] at e; cases e
        obtain ⟨q1, q3⟩ := andB q
        refine ⟨beqN q1, ?_⟩
        show k (i + 1) L ((0, wrI u.2) :: _) (cMH hb H)
        rw [wrI_id (r32_of q3)]
        exact w
    · cases e
  · next h =>
    replace h : op = 39 := h; subst h
    split at e
    · next u S0 =>
      cases q : Nat.beq (mcat u) 1 with
      | false => rw [q] at e; cases e
      | true => rw [q] at e; cases e; exact ⟨beqN q, w⟩
    · cases e
  · next h =>
    replace h : op = 42 := h; subst h
    split at e
    · next v u S0 =>
      cases q : (Nat.beq (mcat v) 1 && Nat.beq (mcat u) 1) with
      | false => rw [q] at e; cases e
      | true =>
        rw [q] at e; cases e
        obtain ⟨q1, q2⟩ := andB q
        exact ⟨beqN q1, beqN q2, w⟩
    · cases e
  · next h => replace h : op = 45 := h; subst h; cases e; exact w
  · next h =>
    replace h : op = 46 := h; subst h
    split at e
    · next u S0 =>
      cases q : Nat.beq u.1 0 with
      | false => rw [q] at e; cases e
      | true =>
        rw [q, cond_true] at e
        refine ⟨beqN q, fun p => ?_, fun p => ?_⟩
        · cases q2 : cndB b u.2 0 with
          | true => replace e : (bif cndB b u.2 0 then some (a, L, S0, H) else some (i + 1, L, S0, H)) = some (i', L', S', H') := e; rw [q2] at e; cases e; exact w
          | false => exact absurd p (cndB_no q2)
        · cases q2 : cndB b u.2 0 with
          | true => exact absurd (cndB_of q2) p
          | false => replace e : (bif cndB b u.2 0 then some (a, L, S0, H) else some (i + 1, L, S0, H)) = some (i', L', S', H') := e; rw [q2] at e; cases e; exact w
    · cases e
  · next h =>
    replace h : op = 47 := h; subst h
    split at e
    · next v u S0 =>
      cases q : (Nat.beq u.1 0 && Nat.beq v.1 0) with
      | false => rw [q] at e; cases e
      | true =>
        rw [q, cond_true] at e
        obtain ⟨q1, q3⟩ := andB q
        refine ⟨beqN q1, beqN q3, fun p => ?_, fun p => ?_⟩
        · cases q2 : cndB b u.2 v.2 with
          | true => replace e : (bif cndB b u.2 v.2 then some (a, L, S0, H) else some (i + 1, L, S0, H)) = some (i', L', S', H') := e; rw [q2] at e; cases e; exact w
          | false => exact absurd p (cndB_no q2)
        · cases q2 : cndB b u.2 v.2 with
          | true => exact absurd (cndB_of q2) p
          | false => replace e : (bif cndB b u.2 v.2 then some (a, L, S0, H) else some (i + 1, L, S0, H)) = some (i', L', S', H') := e; rw [q2] at e; cases e; exact w
    · cases e
  · next h =>
    replace h : op = 48 := h; subst h
    split at e
    · next v u S0 =>
      cases q : (Nat.beq u.1 1 && Nat.beq v.1 1) with
      | false => rw [q] at e; cases e
      | true =>
        rw [q, cond_true] at e
        obtain ⟨q1, q3⟩ := andB q
        refine ⟨beqN q1, beqN q3, fun p => ?_, fun p => ?_⟩
        · cases q2 : cndB b u.2 v.2 with
          | true => replace e : (bif cndB b u.2 v.2 then some (a, L, S0, H) else some (i + 2, L, S0, H)) = some (i', L', S', H') := e; rw [q2] at e; cases e; exact w
          | false => exact absurd p (cndB_no q2)
        · cases q2 : cndB b u.2 v.2 with
          | true => exact absurd (cndB_of q2) p
          | false => replace e : (bif cndB b u.2 v.2 then some (a, L, S0, H) else some (i + 2, L, S0, H)) = some (i', L', S', H') := e; rw [q2] at e; cases e; exact w
    · cases e
  · next h =>
    replace h : op = 49 := h; subst h
    split at e
    · next r S0 =>
      cases q : (Nat.beq r.1 2 && zIn r.2) with
      | false => rw [q] at e; cases e
      | true =>
        rw [q, cond_true] at e
        obtain ⟨q1, q3⟩ := andB q
        split at e
        · next cc q4 =>
          cases q5 : Nat.beq cc.1 (16 + a) with
          | false => replace e : (bif Nat.beq cc.1 (16 + a) then _ else none) = some (i', L', S', H') := e; rw [q5] at e; cases e
          | true =>
            replace e : (bif Nat.beq cc.1 (16 + a) then (match cRf cc b c with
              | some v => some (i + 1, L, (tgo c, v) :: S0, H)
              | none => none) else none) = some (i', L', S', H') := e
            rw [q5, cond_true] at e
            split at e
            · next v q6 =>
              cases e
              refine ⟨beqN q1, zIn_of q3, (cAt_lt q4).2, ?_, fun _ => ?_⟩
              · rw [cMH_at q4]; exact beqN q5
              · show k (i + 1) L ((tgo c, ((cMH hb H).2 r.2.toNat).2.2 b) :: S0) (cMH hb H)
                rw [cMH_at q4]
                have := cRf_of (beqN q5) (hft rfl) q6
                show k (i + 1) L ((tgo c, cvl cc b) :: S0) (cMH hb H)
                rw [this]
                exact w
            · cases e
        · cases e
    · cases e
  · next h =>
    replace h : op = 50 := h; subst h
    split at e
    · next v r S0 =>
      cases q : (Nat.beq v.1 (tgo c) && (Nat.beq r.1 2 && (zIn r.2 && (!(Nat.beq c 4) || (zIn v.2 && zIn (1 - v.2)))))) with
      | false => replace e : (bif (Nat.beq v.1 (tgo c) && (Nat.beq r.1 2 && (zIn r.2 && (!(Nat.beq c 4) || (zIn v.2 && zIn (1 - v.2)))))) then _ else none) = some (i', L', S', H') := e; rw [q] at e; cases e
      | true =>
        replace e : (bif (Nat.beq v.1 (tgo c) && (Nat.beq r.1 2 && (zIn r.2 && (!(Nat.beq c 4) || (zIn v.2 && zIn (1 - v.2)))))) then (match cAt H r.2.toNat with
          | some cc => bif Nat.beq cc.1 (16 + a) then some (i + 1, L, S0, cSt H r.2.toNat b v.2) else none
          | none => none) else none) = some (i', L', S', H') := e
        rw [q, cond_true] at e
        obtain ⟨q1, q2⟩ := andB q
        obtain ⟨q2, q3⟩ := andB q2
        obtain ⟨q3, q4⟩ := andB q3
        split at e
        · next cc q5 =>
          cases q6 : Nat.beq cc.1 (16 + a) with
          | false => rw [q6] at e; cases e
          | true =>
            rw [q6] at e
            cases e
            refine ⟨beqN q1, beqN q2, zIn_of q3, (cAt_lt q5).2, ?_, fun p => ?_, ?_⟩
            · rw [cMH_at q5]; exact beqN q6
            · replace p : c = 4 := p
              rw [p] at q4
              obtain ⟨u1, u2⟩ := andB (show (zIn v.2 && zIn (1 - v.2)) = true from q4)
              have u1 := zIn_of u1
              have u2 := zIn_of u2
              omega
            · show k (i + 1) L _ (hset (cMH hb H) r.2.toNat b v.2)
              rw [← cMH_set q5]
              exact w
        · cases e
    · cases e
  · next h =>
    replace h : op = 55 := h; subst h
    split at e
    · next j r S0 =>
      split at e
      · next cc q4 =>
        cases q5 : (Nat.beq cc.1 6 || (Nat.beq cc.1 7 || Nat.beq cc.1 8)) with
        | false => rw [q5] at e; cases e
        | true =>
          rw [q5, cond_true] at e
          split at e
          · next v q6 =>
            cases e
            obtain ⟨b1, b2, b3, b4, b5⟩ := cIx_of (hb := hb) q4
            refine ⟨b2, b1, b3, ?_, ?_⟩
            · rw [cMH_at b5]
              show cc.1 = 6 ∨ cc.1 = 7 ∨ cc.1 = 8
              rw [Bool.or_eq_true, Bool.or_eq_true] at q5
              rcases q5 with q | q | q
              · exact Or.inl (beqN q)
              · exact Or.inr (Or.inl (beqN q))
              · exact Or.inr (Or.inr (beqN q))
            · rw [cMH_at b5]
              show k (i + 1) L ((2, cvl cc j.2.toNat) :: S0) (cMH hb H)
              rw [cRd_of q6]
              exact w
          · cases e
      · cases e
    · cases e
  · next h =>
    replace h : op = 56 := h; subst h
    split at e
    · next S0 H0 q => cases e; exact cAst_of q w
    · cases e
  · next h =>
    replace h : op = 57 := h; subst h
    split at e
    · next S0 H0 q => cases e; exact cAst_of q w
    · cases e
  · next h =>
    replace h : op = 58 := h; subst h
    split at e
    · next v j r S0 =>
      split at e
      · next cc q4 =>
        have kd : ((cMH hb H).2 r.2.toNat).1 = cc.1 := by rw [cMH_at q4]; rfl
        cases q5 : Nat.beq cc.1 2 with
        | true =>
          rw [q5, cond_true] at e
          show (if ((cMH hb H).2 r.2.toNat).1 = 2 then sAst 2 0 (v :: j :: r :: S0) (cMH hb H) (fun S h => k (i + 1) L S h) else sAst 3 0 (v :: j :: r :: S0) (cMH hb H) (fun S h => k (i + 1) L S h))
          rw [if_pos (kd.trans (beqN q5))]
          split at e
          · next S1 H1 q => cases e; exact cAst_of q w
          · cases e
        | false =>
          rw [q5, cond_false] at e
          show (if ((cMH hb H).2 r.2.toNat).1 = 2 then sAst 2 0 (v :: j :: r :: S0) (cMH hb H) (fun S h => k (i + 1) L S h) else sAst 3 0 (v :: j :: r :: S0) (cMH hb H) (fun S h => k (i + 1) L S h))
          rw [if_neg (fun z => beqN_no q5 (kd.symm.trans z))]
          split at e
          · next S1 H1 q => cases e; exact cAst_of q w
          · cases e
      · cases e
    · cases e
  · next h =>
    replace h : op = 60 := h; subst h
    split at e
    · next r S0 =>
      cases q : (Nat.beq r.1 2 && zIn r.2) with
      | false => rw [q] at e; cases e
      | true =>
        rw [q, cond_true] at e
        obtain ⟨q1, q3⟩ := andB q
        split at e
        · next cc q4 =>
          cases q5 : (Nat.blt cc.1 16 && Nat.ble cc.2.1 2147483647) with
          | false => rw [q5] at e; cases e
          | true =>
            rw [q5] at e
            cases e
            obtain ⟨p1, p2⟩ := andB q5
            refine ⟨beqN q1, zIn_of q3, (cAt_lt q4).2, ?_, ?_, ?_⟩
            · rw [cMH_at q4]; exact bltN p1
            · rw [cMH_at q4]; exact bleN p2
            · rw [cMH_at q4]; exact w
        · cases e
    · cases e
  · cases e
