/-! the run of a constructor by numbers, and that it tells the truth -/
def atO (a : Nat) : ArrayType := match a with
  | 0 => .int
  | 1 => .long
  | 2 => .boolean
  | 3 => .byte
  | _ => .char
def okI (K : mK) (o : Nat) (P : MP) (i : Nat) (mi : MI) : Bool := match mi.2.1 with
  | 110 => okD K P i mi.1 (.new mi.2.2.2.2.1) 3 && (NWt o).contains (mi.2.2.2.2.1, mi.2.2.2.1)
  | 111 => okD K P i mi.1 (.newarray (atO mi.2.2.2.1)) 2 && Nat.ble mi.2.2.2.1 4
  | 112 => okD K P i mi.1 (.anewarray mi.2.2.2.2.1) 3 && (NWt o).contains (mi.2.2.2.2.1, 1)
  | 113 => okD K P i mi.1 (.multianewarray mi.2.2.2.2.1 2) 4 && (MAt o).contains (mi.2.2.2.2.1, mi.2.2.2.1)
  | 114 => okD K P i mi.1 (.invokespecial mi.2.2.2.2.1) 3 && ((CLt o).contains (mi.2.2.2.2.1, mi.2.2.2.1) && Nat.blt mi.2.2.2.1 21)
  | 115 => okD K P i mi.1 (.invokespecial mi.2.2.2.2.1) 3 && ((OIt o).contains mi.2.2.2.2.1 && (Nat.ble 1 K.2.2.2.2.2.1 && Nat.ble 20 K.2.2.2.2.2.2))
  | 116 => okD K P i mi.1 .aastore 1
  | 117 => okD K P i mi.1 (.invokespecial mi.2.2.2.2.1) 3 && ((CNt o).contains (mi.2.2.2.2.1, mi.2.2.2.1) && Nat.blt mi.2.2.2.1 21)
  | 118 => okD K P i mi.1 (.anewarray mi.2.2.2.2.1) 3 && (ARt o).contains mi.2.2.2.2.1
  | 120 => okD K P i mi.1 (.putfield mi.2.2.1.toNat) 3 && (decide (mi.2.2.2.2.2 < 5) && ((FT o).contains (mi.2.2.1.toNat, mi.2.2.2.1, mi.2.2.2.2.1, mi.2.2.2.2.2) && (match mcl[mi.2.2.2.1]? with
    | some r => (r.2.1 mi.2.2.2.2.1).2.2.2 && decide (K.2.1 = (r.2.1 mi.2.2.2.2.1).1)
    | none => false)))
  | _ => ok1 K o P i mi
def okIG (K : mK) (o : Nat) (P : MP) : Nat → List MI → Bool
  | _, [] => true
  | i, mi :: l => okI K o P i mi && okIG K o P (i + 1) l
theorem okIG_at {K : mK} {o : Nat} {P : MP} : ∀ (l : List MI) (j : Nat), okIG K o P j l = true → ∀ (n : Nat) (mi : MI), zget l n = some mi → okI K o P (j + n) mi = true
  | [], _, _, _, _, h => by cases h
  | x :: l, j, e, n, mi, h => by
    obtain ⟨a, b⟩ := andB e
    unfold zget at h
    cases z : Nat.beq n 0 with
    | true =>
      rw [z] at h
      have := beqN z
      subst this
      cases h
      exact a
    | false =>
      rw [z] at h
      have z := beqN_no z
      have := okIG_at l (j + 1) b (n - 1) mi h
      rw [show j + 1 + (n - 1) = j + n by omega] at this
      exact this
theorem zget_el {α : Type} : ∀ {l : List α} {n : Nat}, zget l n = l[n]?
  | [], n => by simp [zget]
  | x :: l, n => by
    unfold zget
    cases z : Nat.beq n 0 with
    | true =>
      have := beqN z
      subst this
      rfl
    | false =>
      have z := beqN_no z
      show zget l (n - 1) = _
      rw [zget_el]
      obtain ⟨k, rfl⟩ : ∃ k, n = k + 1 := ⟨n - 1, by omega⟩
      rfl
set_option maxRecDepth 100000 in
theorem pgI_ok : ∀ j, j < 21 → okIG (kI j) j (pgI j) 0 (pgI j).1 = true := by
  intro j hj
  match j, hj with
  | 0, _ => decide +kernel
  | 1, _ => decide +kernel
  | 2, _ => decide +kernel
  | 3, _ => decide +kernel
  | 4, _ => decide +kernel
  | 5, _ => decide +kernel
  | 6, _ => decide +kernel
  | 7, _ => decide +kernel
  | 8, _ => decide +kernel
  | 9, _ => decide +kernel
  | 10, _ => decide +kernel
  | 11, _ => decide +kernel
  | 12, _ => decide +kernel
  | 13, _ => decide +kernel
  | 14, _ => decide +kernel
  | 15, _ => decide +kernel
  | 16, _ => decide +kernel
  | 17, _ => decide +kernel
  | 18, _ => decide +kernel
  | 19, _ => decide +kernel
  | 20, _ => decide +kernel
  | n + 21, h => omega
/-- methods 0 .. 820, then the constructors -/
def uK (m : Nat) : mK := bif Nat.blt m 821 then kT m else kI (m - 821)
def uP (m : Nat) : MP := bif Nat.blt m 821 then pgT m else pgI (m - 821)
def uO (m : Nat) : Nat := bif Nat.blt m 821 then ownT m else m - 821
def cspl : Nat → List MV → Option (List MV × List MV)
  | 0, S => some ([], S)
  | _ + 1, [] => none
  | n + 1, v :: S => match cspl n S with
    | some (a, r) => some (a ++ [v], r)
    | none => none
theorem cspl_of : ∀ {n : Nat} {S as r : List MV}, cspl n S = some (as, r) → S = as.reverse ++ r ∧ as.length = n
  | 0, S, as, r, h => by cases h; exact ⟨rfl, rfl⟩
  | _ + 1, [], as, r, h => by cases h
  | n + 1, v :: S, as, r, h => by
    unfold cspl at h
    split at h
    · next a r' e =>
      cases h
      obtain ⟨h1, h2⟩ := cspl_of e
      refine ⟨?_, by rw [List.length_append, h2]; rfl⟩
      rw [List.reverse_append, h1]
      rfl
    · cases h
def cFl (H : CH) (a : Nat) (v : Int) : Nat → CH
  | 0 => H
  | k + 1 => cSt (cFl H a v k) a k v
def cwd (S : List MV) : Bool := Nat.ble (S.map mcat).sum 8
def crun : Nat → Nat → Nat → List (Nat × MV) → List MV → CH → Option (MO × CH)
  | 0, _, _, _, _, _ => none
  | n + 1, m, i, L, S, H => match zget (uP m).1 i with
    | none => none
    | some mi => match mi.2.1 with
      | 63 => (match S with
        | [] => some ((0, (0, 0)), H)
        | _ => none)
      | 67 => (match zget mtab mi.2.2.2.1 with
        | some q => (match cspl q.2.2.2.1 S with
          | some (as, r :: rest) => bif Nat.blt mi.2.2.2.1 821 && (Nat.beq q.2.2.2.2 0 && (Nat.beq q.1.1 0 && (fitB (uK m) q.1 && (Nat.beq r.1 2 && (zIn r.2 && (cwd rest && (Nat.ble (mwid (r :: as)) q.1.2.2.2.1 && Nat.beq (pcA (pgT mi.2.2.2.1) 0) 0))))))) then (match cAt H r.2.toNat with
            | some c => bif Nat.beq c.1 (16 + q.2.2.1) then (match crun n mi.2.2.2.1 0 (margs 0 (r :: as)) [] H with
              | some (o, H1) => bif Nat.beq o.1 0 then crun n m (i + 1) L rest H1 else bif Nat.beq o.1 1 then crun n m (i + 1) L (o.2 :: rest) H1 else none
              | none => none) else none
            | none => none) else none
          | _ => none)
        | none => none)
      | 99 => bif Nat.blt m 821 then (match xfind m i XT with
        | some (80, _, _) => (match S with
          | v :: r :: rest => bif Nat.beq v.1 0 && (Nat.beq r.1 2 && (zIn r.2 && cwd rest)) then (match cAt H r.2.toNat with
            | some c => bif Nat.beq c.1 0 && Nat.ble c.2.1 100000 then crun n m (i + 1) L rest (cFl H r.2.toNat v.2 c.2.1) else none
            | none => none) else none
          | _ => none)
        | _ => none) else none
      | 110 => bif Nat.blt m 821 then none else (match zget mcl mi.2.2.2.1 with
        | some r => crun n m (i + 1) L ((2, (H.1 : Int)) :: S) (H.1 + 1, H.2.1 + r.2.2, (16 + mi.2.2.2.1, r.2.2, 2, []) :: H.2.2)
        | none => none)
      | 111 => bif Nat.blt m 821 then none else (match S with
        | v :: S => bif Nat.beq v.1 0 && (zIn v.2 && zIn (10000000 - v.2)) then crun n m (i + 1) L ((2, (H.1 : Int)) :: S) (H.1 + 1, H.2.1 + v.2.toNat, (mi.2.2.2.1, v.2.toNat, 0, []) :: H.2.2) else none
        | _ => none)
      | 112 => bif Nat.blt m 821 then none else (match S with
        | v :: S => bif Nat.beq v.1 0 && (zIn v.2 && zIn (10000000 - v.2)) then crun n m (i + 1) L ((2, (H.1 : Int)) :: S) (H.1 + 1, H.2.1 + v.2.toNat, (8, v.2.toNat, 1, []) :: H.2.2) else none
        | _ => none)
      | 118 => bif Nat.blt m 821 then none else (match S with
        | v :: S => bif Nat.beq v.1 0 && (zIn v.2 && zIn (10000000 - v.2)) then crun n m (i + 1) L ((2, (H.1 : Int)) :: S) (H.1 + 1, H.2.1 + v.2.toNat, (6, v.2.toNat, 1, []) :: H.2.2) else none
        | _ => none)
      | 113 => bif Nat.blt m 821 then none else (match S with
        | w :: v :: S => bif Nat.beq w.1 0 && (Nat.beq v.1 0 && (zIn v.2 && (zIn (1000000 - v.2) && (zIn w.2 && zIn (1000000 - w.2))))) then crun n m (i + 1) L ((2, (H.1 : Int)) :: S) (H.1 + (1 + v.2.toNat), H.2.1 + (v.2.toNat + v.2.toNat * w.2.toNat), List.replicate v.2.toNat (mi.2.2.2.1, w.2.toNat, 0, []) ++ (6 + mi.2.2.2.1, v.2.toNat, H.1 + 1 + 3, []) :: H.2.2) else none
        | _ => none)
      | 115 => bif Nat.blt m 821 then none else (match S with
        | r :: S => bif Nat.beq r.1 2 && (zIn r.2 && cwd S) then crun n m (i + 1) L S H else none
        | _ => none)
      | 116 => bif Nat.blt m 821 then none else (match S with
        | v :: j :: r :: S => (match cIx H r j, cAt H v.2.toNat with
          | some c, some cv => bif Nat.beq v.1 2 && (zIn v.2 && ((Nat.beq c.1 8 && Nat.beq cv.1 17) || (Nat.beq c.1 6 && Nat.beq cv.1 0))) then crun n m (i + 1) L S (cSt H r.2.toNat j.2.toNat v.2) else none
          | _, _ => none)
        | _ => none)
      | 120 => bif Nat.blt m 821 then none else (match S with
        | v :: r :: S => bif Nat.beq v.1 (tgo mi.2.2.2.2.2) && (Nat.beq r.1 2 && (zIn r.2 && (!(Nat.beq mi.2.2.2.2.2 4) || (zIn v.2 && zIn (1 - v.2))))) then (match cAt H r.2.toNat with
          | some c => bif Nat.beq c.1 (16 + mi.2.2.2.1) then crun n m (i + 1) L S (cSt H r.2.toNat mi.2.2.2.2.1 v.2) else none
          | none => none) else none
        | _ => none)
      | o => bif Nat.beq o 114 || Nat.beq o 117 then (bif Nat.blt m 821 then none else (match cspl (npI mi.2.2.2.1) S with
          | some (as, r :: rest) => bif fitB (uK m) (kI mi.2.2.2.1) && (Nat.beq r.1 2 && (zIn r.2 && (cwd rest && (Nat.ble (mwid (r :: as)) (kI mi.2.2.2.1).2.2.2.1 && Nat.beq (pcA (pgI mi.2.2.2.1) 0) 0)))) then (match cAt H r.2.toNat with
            | some c => bif Nat.beq c.1 (16 + mi.2.2.2.1) then (match crun n (821 + mi.2.2.2.1) 0 (margs 0 (r :: as)) [] H with
              | some (o, H1) => bif Nat.beq o.1 0 then crun n m (i + 1) L rest H1 else none
              | none => none) else none
            | none => none) else none
          | _ => none))
        else (match cs1 i mi L S H with
          | some (i', L', S', H') => crun n m i' L' S' H'
          | none => none)
