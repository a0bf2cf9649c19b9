/-! one instruction: what it asks, where it leads -/
def zcat (t : Nat) : Nat := if t = 0 ∨ t = 2 then 1 else 2
theorem zcat_of (t : Nat) (z : Int) : mcat (t, z) = zcat t := rfl
def zlk : ZLs → Nat → Option (Nat × ZT)
  | [], _ => none
  | q :: r, a => bif Nat.beq q.1 a then some q.2 else zlk r a
theorem zlk_of (ρ : Nat → Int) {a : Nat} {x : Nat × ZT} : ∀ {l : ZLs}, zlk l a = some x → mlook (zL ρ l) a = some (x.1, zv ρ x.2)
  | [], h => by cases h
  | q :: r, h => by
    unfold zlk at h
    show (if q.1 = a then some (q.2.1, zv ρ q.2.2) else mlook (zL ρ r) a) = _
    cases e : Nat.beq q.1 a with
    | true =>
      rw [e] at h
      cases h
      rw [if_pos (beqN e)]
    | false =>
      rw [e] at h
      rw [if_neg (beqN_no e)]
      exact zlk_of ρ h
theorem zlk_mem {a : Nat} {x : Nat × ZT} : ∀ {l : ZLs}, zlk l a = some x → (a, x) ∈ l
  | [], h => by cases h
  | q :: r, h => by
    unfold zlk at h
    cases e : Nat.beq q.1 a with
    | true =>
      rw [e] at h
      cases h
      rw [← beqN e]
      exact List.mem_cons_self
    | false =>
      rw [e] at h
      exact List.mem_cons_of_mem _ (zlk_mem h)
def zput (l : ZLs) (a : Nat) (v : Nat × ZT) : ZLs := (a, v) :: l.filter fun q => !(Nat.beq q.1 a) && !(Nat.beq (q.1 + 1) a && Nat.beq (zcat q.2.1) 2)
def zput2 (l : ZLs) (a : Nat) (v : Nat × ZT) : ZLs := (a, v) :: l.filter fun q => !(Nat.beq q.1 a) && (!(Nat.beq q.1 (a + 1)) && !(Nat.beq (q.1 + 1) a && Nat.beq (zcat q.2.1) 2))
theorem natB (a b : Nat) : (a == b) = Nat.beq a b := by
  cases e : Nat.beq a b with
  | true => rw [beqN e]; exact beq_self_eq_true b
  | false => exact beq_eq_false_iff_ne.mpr (beqN_no e)
theorem zput_of (ρ : Nat → Int) (l : ZLs) (a : Nat) (v : Nat × ZT) : zL ρ (zput l a v) = mput (zL ρ l) a (v.1, zv ρ v.2) := by
  unfold zput mput zL
  rw [List.map_cons, List.filter_map]
  congr 2
  refine List.filter_congr fun q _ => ?_
  show _ = (!(q.1 == a) && !(q.1 + 1 == a && mcat (q.2.1, zv ρ q.2.2) == 2))
  rw [zcat_of, natB, natB, natB]
theorem zput2_of (ρ : Nat → Int) (l : ZLs) (a : Nat) (v : Nat × ZT) : zL ρ (zput2 l a v) = mput2 (zL ρ l) a (v.1, zv ρ v.2) := by
  unfold zput2 mput2 zL
  rw [List.map_cons, List.filter_map]
  congr 2
  refine List.filter_congr fun q _ => ?_
  show _ = (!(q.1 == a) && (!(q.1 == a + 1) && !(q.1 + 1 == a && mcat (q.2.1, zv ρ q.2.2) == 2)))
  rw [zcat_of, natB, natB, natB, natB]
def zcats (l : ZSs) : Nat := match l with
  | [] => 0
  | q :: r => zcat q.1 + zcats r
theorem zcats_of (ρ : Nat → Int) : ∀ l : ZSs, ((zSk ρ l).map mcat).sum = zcats l
  | [] => rfl
  | q :: r => by
    show (mcat (q.1, zv ρ q.2) :: (zSk ρ r).map mcat).sum = zcat q.1 + zcats r
    rw [List.sum_cons, zcats_of ρ r, zcat_of]
/-- not below 0, at once or by a proof -/
def znn (F : List ZT) (t : ZT) (k : List Nat) : Option (List Nat) := bif zleq t.2 [] && zIn t.1 then some k else match rdC k with
  | (c, k) => bif zcert F c t then some k else none
theorem znn_of {F : List ZT} {ρ : Nat → Int} (hF : ∀ f ∈ F, 0 ≤ zv ρ f) {t : ZT} {k k' : List Nat} (h : znn F t k = some k') : 0 ≤ zv ρ t := by
  unfold znn at h
  cases e : (zleq t.2 [] && zIn t.1) with
  | true =>
    obtain ⟨h1, h2⟩ := andB e
    unfold zv
    rw [zleq_of h1]
    have := zIn_of h2
    show 0 ≤ t.1 + 0
    omega
  | false =>
    rw [e, cond_false] at h
    split at h
    next c k1 e1 =>
    cases e2 : zcert F c t with
    | false => rw [e2] at h; cases h
    | true => exact zcert_of hF e2
/-- facts of a compare: 0 =, 1 not, 2 <, 3 not below, 4 >, 5 not above -/
def cF (c : Nat) (x y : ZT) : List ZT := match c with
  | 0 => [zsb x y, zsb y x]
  | 1 => []
  | 2 => [zpl (zsb y x) (-1)]
  | 3 => [zsb x y]
  | 4 => [zpl (zsb x y) (-1)]
  | _ => [zsb y x]
def cD (c : Nat) (x y : ZT) : List (List ZT) := match c with
  | 1 => [[zpl (zsb x y) (-1), zpl (zsb y x) (-1)]]
  | _ => []
def cN (c : Nat) : Nat := match c with
  | 0 => 1
  | 1 => 0
  | 2 => 3
  | 3 => 2
  | 4 => 5
  | _ => 4
theorem cF_of {c : Nat} {x y : ZT} {ρ : Nat → Int} (h : cnd c (zv ρ x) (zv ρ y)) : (∀ f ∈ cF c x y, 0 ≤ zv ρ f) ∧ ∀ d ∈ cD c x y, ∃ f ∈ d, 0 ≤ zv ρ f := by
  match c, h with
  | 0, h =>
    replace h : zv ρ x = zv ρ y := h
    exact ⟨all2 (by rw [zsb_v]; omega) (by rw [zsb_v]; omega), noD⟩
  | 1, h =>
    replace h : zv ρ x ≠ zv ρ y := h
    refine ⟨noF, List.forall_mem_cons.mpr ⟨?_, noD⟩⟩
    by_cases q : zv ρ y < zv ρ x
    · exact ⟨_, List.mem_cons_self, by rw [zpl_v, zsb_v]; omega⟩
    · exact ⟨_, List.mem_cons_of_mem _ List.mem_cons_self, by rw [zpl_v, zsb_v]; omega⟩
  | 2, h =>
    replace h : zv ρ x < zv ρ y := h
    exact ⟨List.forall_mem_cons.mpr ⟨by rw [zpl_v, zsb_v]; omega, noF⟩, noD⟩
  | 3, h =>
    replace h : zv ρ y ≤ zv ρ x := h
    exact ⟨List.forall_mem_cons.mpr ⟨by rw [zsb_v]; omega, noF⟩, noD⟩
  | 4, h =>
    replace h : zv ρ y < zv ρ x := h
    exact ⟨List.forall_mem_cons.mpr ⟨by rw [zpl_v, zsb_v]; omega, noF⟩, noD⟩
  | c + 5, h =>
    replace h : zv ρ x ≤ zv ρ y := h
    exact ⟨List.forall_mem_cons.mpr ⟨by rw [zsb_v]; omega, noF⟩, noD⟩
theorem cN_of {c : Nat} {x y : Int} (hc : c < 6) (h : ¬ cnd c x y) : cnd (cN c) x y := by
  match c, hc, h with
  | 0, _, h => exact h
  | 1, _, h => exact Classical.not_not.mp h
  | 2, _, h => exact Int.not_lt.mp h
  | 3, _, h => exact Int.not_le.mp h
  | 4, _, h => exact Int.not_lt.mp h
  | 5, _, h => exact Int.not_le.mp h
  | c + 6, hc, _ => omega
def zadF (s : ZSt) (rest : ZSs) (fs : List ZT) (ds : List (List ZT)) : ZSt := (s.1, rest, (fs ++ s.2.2.1, ds ++ s.2.2.2.1, s.2.2.2.2))
theorem Kn.adF {G : ZG} {ρ : Nat → Int} {h : MH} {K : ZK} (B : Kn G ρ h K) {fs : List ZT} {ds : List (List ZT)} (k : (∀ f ∈ fs, 0 ≤ zv ρ f) ∧ ∀ d ∈ ds, ∃ f ∈ d, 0 ≤ zv ρ f) : Kn G ρ h (fs ++ K.1, ds ++ K.2.1, K.2.2) := ⟨fun f hf => (List.mem_append.mp hf).elim (k.1 f) (B.1 f), fun d hd => (List.mem_append.mp hd).elim (k.2 d) (B.2.1 d), B.2.2⟩
abbrev ZO : Type := Option (List (Nat × ZSt) × List Nat)
def one' (i : Nat) (q : Option (ZSt × List Nat)) : ZO := match q with
  | some (s, k) => some ([(i + 1, s)], k)
  | none => none
def st2' (t1 t2 i : Nat) (s : ZSt) (f : ZT → ZT → ZSs → Option (ZSt × List Nat)) : ZO := match s.2.1 with
  | v :: u :: rest => bif Nat.beq u.1 t1 && Nat.beq v.1 t2 then one' i (f u.2 v.2 rest) else none
  | _ => none
def st1' (t1 i : Nat) (s : ZSt) (f : ZT → ZSs → Option (ZSt × List Nat)) : ZO := match s.2.1 with
  | u :: rest => bif Nat.beq u.1 t1 then one' i (f u.2 rest) else none
  | _ => none
theorem one'_of {i : Nat} {q : Option (ZSt × List Nat)} {ss : List (Nat × ZSt)} {k' : List Nat} (e : one' i q = some (ss, k')) : ∃ s', q = some (s', k') ∧ ss = [(i + 1, s')] := by
  unfold one' at e
  split at e
  · next s k => cases e; exact ⟨s, rfl, rfl⟩
  · cases e
theorem st2'_of {t1 t2 i : Nat} {s : ZSt} {f : ZT → ZT → ZSs → Option (ZSt × List Nat)} {ss : List (Nat × ZSt)} {k' : List Nat} (e : st2' t1 t2 i s f = some (ss, k')) : ∃ x y rest s', s.2.1 = (t2, y) :: (t1, x) :: rest ∧ f x y rest = some (s', k') ∧ ss = [(i + 1, s')] := by
  unfold st2' at e
  split at e
  · next v u rest hS =>
    cases e1 : (Nat.beq u.1 t1 && Nat.beq v.1 t2) with
    | false => rw [e1] at e; cases e
    | true =>
      rw [e1, cond_true] at e
      obtain ⟨h1, h2⟩ := andB e1
      obtain ⟨s', a, b⟩ := one'_of e
      refine ⟨u.2, v.2, rest, s', ?_, a, b⟩
      rw [hS, ← beqN h1, ← beqN h2]
  · cases e
theorem st1'_of {t1 i : Nat} {s : ZSt} {f : ZT → ZSs → Option (ZSt × List Nat)} {ss : List (Nat × ZSt)} {k' : List Nat} (e : st1' t1 i s f = some (ss, k')) : ∃ x rest s', s.2.1 = (t1, x) :: rest ∧ f x rest = some (s', k') ∧ ss = [(i + 1, s')] := by
  unfold st1' at e
  split at e
  · next u rest hS =>
    cases e1 : Nat.beq u.1 t1 with
    | false => rw [e1] at e; cases e
    | true =>
      rw [e1, cond_true] at e
      obtain ⟨s', a, b⟩ := one'_of e
      refine ⟨u.2, rest, s', ?_, a, b⟩
      rw [hS, ← beqN e1]
  · cases e
def xLod (t a : Nat) (s : ZSt) (k : List Nat) : Option (ZSt × List Nat) := match zlk s.1 a with
  | some v => bif Nat.beq v.1 t then (bif Nat.beq t 2 then (match znn s.2.2.1 v.2 k with
      | some k => some ((s.1, v :: s.2.1, s.2.2), k)
      | none => none) else some ((s.1, v :: s.2.1, s.2.2), k)) else none
  | none => none
def xInc (lo a : Nat) (z : Int) (s : ZSt) (k : List Nat) : Option (ZSt × List Nat) := match zlk s.1 a with
  | some v => bif Nat.beq v.1 0 then (match k with
    | 0 :: k => (match zrng s.2.2.1 0 (zpl v.2 z) k with
      | some k => some ((zput s.1 a (0, zpl v.2 z), s.2), k)
      | none => none)
    | 1 :: n :: k => bif zfr lo s n then some ((zput s.1 a (0, zx n), s.2.1, (rngF 0 (zx n) ++ s.2.2.1, s.2.2.2)), k) else none
    | _ => none) else none
  | none => none
/-- the stack alone is moved -/
def xMv (o : Nat) (s : ZSt) (k : List Nat) : Option (ZSt × List Nat) := match o, s.2.1 with
  | 39, u :: S => bif Nat.beq (zcat u.1) 1 then some ((s.1, u :: u :: S, s.2.2), k) else none
  | 40, u :: S => bif Nat.beq (zcat u.1) 1 then some ((s.1, S, s.2.2), k) else none
  | 41, u :: S => bif Nat.beq (zcat u.1) 2 then some ((s.1, S, s.2.2), k) else none
  | 42, v :: w :: S => bif Nat.beq (zcat v.1) 1 && Nat.beq (zcat w.1) 1 then some ((s.1, v :: w :: v :: S, s.2.2), k) else none
  | 43, v :: w :: u :: S => bif Nat.beq (zcat v.1) 1 && (Nat.beq (zcat w.1) 1 && Nat.beq (zcat u.1) 1) then some ((s.1, v :: w :: u :: v :: S, s.2.2), k) else none
  | 44, v :: w :: S => bif Nat.beq (zcat v.1) 1 && Nat.beq (zcat w.1) 1 then some ((s.1, v :: w :: v :: w :: S, s.2.2), k) else none
  | _, _ => none
/-- an array of a kind is written -/
def xSt (G : ZG) (T : ZTab) (M : List ZR) (lo n kd tg : Nat) (s : ZSt) (k : List Nat) : Option (ZSt × List Nat) := match s.2.1 with
  | v :: i :: r :: rest => bif Nat.beq v.1 tg && (Nat.beq i.1 0 && Nat.beq r.1 2) then (match zcl T s.2.2.1 s.2.2.2.2.1 kd r.2 k with
    | some (p, k) => bif Nat.ble 4 p.2.1 then (match zix s.2.2.1 p.1 i.2 k with
      | some k => (match (match kd with
        | 2 => zwi s.2.2.1 0 1 v.2 k
        | 3 => (match rdCs 2 k with
          | (cs, k) => bif zcerts s.2.2.1 cs [zpl v.2 128, zsb (zc 127) v.2] then some k else none)
        | 4 => zwi s.2.2.1 0 65535 v.2 k
        | _ => some k) with
        | some k => xWr G T M lo n s p.2.1 p.2.2 r.2 i.2 v.2 rest k
        | none => none)
      | none => none) else none
    | none => none) else none
  | _ => none
def xPut (G : ZG) (T : ZTab) (M : List ZR) (lo n ci j c : Nat) (s : ZSt) (k : List Nat) : Option (ZSt × List Nat) := match s.2.1 with
  | v :: r :: rest => bif Nat.beq v.1 (tgo c) && (Nat.beq r.1 2 && Nat.blt j 1000) then (match zcl T s.2.2.1 s.2.2.2.2.1 (16 + ci) r.2 k with
    | some (p, k) => bif (Nat.beq (T.2.2.2.1 p.2.1 j) 0 && Nat.beq p.2.1 p.2.2) || (Nat.beq ci 1 && Nat.ble 1 j) then (match (bif Nat.beq c 4 then zwi s.2.2.1 0 1 v.2 k else some k) with
      | some k => xWr G T M lo n s p.2.1 p.2.2 r.2 (zc (Int.ofNat j)) v.2 rest k
      | none => none) else none
    | none => none) else none
  | _ => none
def xLen (T : ZTab) (s : ZSt) (r : ZT) (rest : ZSs) (k : List Nat) : Option (ZSt × List Nat) := match k with
  | kd :: k => bif Nat.blt kd 16 then (match zcl T s.2.2.1 s.2.2.2.2.1 kd r k with
    | some (p, k) => (match rdC k with
    | (d, k) => bif zcert s.2.2.1 d (zsb (zc 2147483647) p.1) then some (zpush s rest 0 p.1, k) else none)
    | none => none) else none
  | [] => none
def xIf (t c a j : Nat) (s : ZSt) (x y : ZT) (rest : ZSs) (k : List Nat) : ZO := bif Nat.blt c 6 then some ([(a, zadF s rest (cF c x y) (cD c x y)), (j, zadF s rest (cF (cN c) x y) (cD (cN c) x y))], k) else none
def zsws (s : ZSt) (x : ZT) (rest : ZSs) (lo : Int) : Nat → List Nat → List (Nat × ZSt)
  | _, [] => []
  | j, t :: ts => (t, zadF s rest (cF 0 x (zc (lo + Int.ofNat j))) []) :: zsws s x rest lo (j + 1) ts
def xSw (q : Option (Int × List Nat)) (s : ZSt) (k : List Nat) : ZO := match s.2.1, q with
  | u :: rest, some (lo, dflt :: ts) => bif Nat.beq u.1 0 then some ((dflt, zadF s rest [] [[zpl (zsb (zc lo) u.2) (-1), zsb u.2 (zc (lo + Int.ofNat ts.length))]]) :: zsws s u.2 rest lo 0 ts, k) else none
  | _, _ => none
def xLb (T : ZTab) (lo i : Nat) (s : ZSt) (k : List Nat) : ZO := match k with
  | kd :: k => bif Nat.beq kd 2 || Nat.beq kd 3 then st2' 2 0 i s fun x y rest => xLd T lo kd 0 s x y rest k else none
  | [] => none
def xSb (G : ZG) (T : ZTab) (M : List ZR) (lo n i : Nat) (s : ZSt) (k : List Nat) : ZO := match k with
  | kd :: k => bif Nat.beq kd 2 || Nat.beq kd 3 then one' i (xSt G T M lo n kd 0 s k) else none
  | [] => none
/-- one instruction (calls and returns apart) -/
def ist (G : ZG) (T : ZTab) (M : List ZR) (P : MP) (lo n i : Nat) (mi : MI) (s : ZSt) (k : List Nat) : ZO :=
  let z := mi.2.2.1
  let a := mi.2.2.2.1
  let b := mi.2.2.2.2.1
  let c := mi.2.2.2.2.2
  match mi.2.1 with
  | 1 => some ([(i + 1, (s.1, (0, zc z) :: s.2.1, s.2.2))], k)
  | 2 => some ([(i + 1, (s.1, (1, zc z) :: s.2.1, s.2.2))], k)
  | 3 => one' i (xLod 0 a s k)
  | 4 => one' i (xLod 1 a s k)
  | 5 => one' i (xLod 2 a s k)
  | 7 => st1' 0 i s fun x rest => some ((zput s.1 a (0, x), rest, s.2.2), k)
  | 8 => st1' 1 i s fun x rest => some ((zput2 s.1 a (1, x), rest, s.2.2), k)
  | 9 => st1' 2 i s fun x rest => match znn s.2.2.1 x k with
    | some k => some ((zput s.1 a (2, x), rest, s.2.2), k)
    | none => none
  | 11 => one' i (xInc lo a z s k)
  | 12 => st2' 0 0 i s fun x y rest => xAr lo 0 0 s x y rest k
  | 13 => st2' 0 0 i s fun x y rest => xAr lo 0 1 s x y rest k
  | 14 => st2' 0 0 i s fun x y rest => xAr lo 0 2 s x y rest k
  | 15 => st1' 0 i s fun x rest => xUn lo 0 0 s x rest k
  | 16 => st2' 1 1 i s fun x y rest => xAr lo 1 0 s x y rest k
  | 17 => st2' 1 1 i s fun x y rest => xAr lo 1 1 s x y rest k
  | 18 => st2' 1 1 i s fun x y rest => xAr lo 1 2 s x y rest k
  | 19 => st1' 1 i s fun x rest => xUn lo 1 0 s x rest k
  | 20 => st2' 0 0 i s fun x y rest => xDv lo 0 0 s x y rest k
  | 21 => st2' 0 0 i s fun x y rest => xDv lo 0 1 s x y rest k
  | 22 => st2' 1 1 i s fun x y rest => xDv lo 1 0 s x y rest k
  | 23 => st2' 1 1 i s fun x y rest => xDv lo 1 1 s x y rest k
  | 24 => st2' 0 0 i s fun x y rest => xBt lo 0 0 s x y rest k
  | 25 => st2' 0 0 i s fun x y rest => xBt lo 0 1 s x y rest k
  | 26 => st2' 0 0 i s fun x y rest => xBt lo 0 2 s x y rest k
  | 27 => st2' 1 1 i s fun x y rest => xBt lo 1 0 s x y rest k
  | 28 => st2' 1 1 i s fun x y rest => xBt lo 1 1 s x y rest k
  | 29 => st2' 1 1 i s fun x y rest => xBt lo 1 2 s x y rest k
  | 30 => st2' 0 0 i s fun x y rest => xBt lo 0 3 s x y rest k
  | 31 => st2' 0 0 i s fun x y rest => xBt lo 0 4 s x y rest k
  | 32 => st2' 1 0 i s fun x y rest => xBt lo 1 3 s x y rest k
  | 33 => st2' 1 0 i s fun x y rest => xBt lo 1 4 s x y rest k
  | 35 => st1' 0 i s fun x rest => some (zpush s rest 1 x, k)
  | 36 => st1' 1 i s fun x rest => xUn lo 0 1 s x rest k
  | 37 => st1' 0 i s fun x rest => xUn lo 0 2 s x rest k
  | 38 => st1' 0 i s fun x rest => match rdCs 2 k with
    | (cs, k) => bif zcerts s.2.2.1 cs [zpl x 128, zsb (zc 127) x] then some (zpush s rest 0 x, k) else none
  | 45 => some ([(a, s)], k)
  | 46 => (match s.2.1 with
    | u :: rest => bif Nat.beq u.1 0 then xIf 0 b a (i + 1) s u.2 (zc 0) rest k else none
    | _ => none)
  | 47 => (match s.2.1 with
    | v :: u :: rest => bif Nat.beq u.1 0 && Nat.beq v.1 0 then xIf 0 b a (i + 1) s u.2 v.2 rest k else none
    | _ => none)
  | 48 => (match s.2.1 with
    | v :: u :: rest => bif Nat.beq u.1 1 && Nat.beq v.1 1 then xIf 0 b a (i + 2) s u.2 v.2 rest k else none
    | _ => none)
  | 49 => st1' 2 i s fun x rest => xGet T lo a b c s x rest k
  | 50 => one' i (xPut G T M lo n a b c s k)
  | 51 => st2' 2 0 i s fun x y rest => xLd T lo 0 0 s x y rest k
  | 52 => st2' 2 0 i s fun x y rest => xLd T lo 1 1 s x y rest k
  | 53 => xLb T lo i s k
  | 54 => st2' 2 0 i s fun x y rest => xLd T lo 4 0 s x y rest k
  | 55 => st2' 2 0 i s fun x y rest => xRow T lo s x y rest k
  | 56 => one' i (xSt G T M lo n 0 0 s k)
  | 57 => one' i (xSt G T M lo n 1 1 s k)
  | 58 => xSb G T M lo n i s k
  | 59 => one' i (xSt G T M lo n 4 0 s k)
  | 60 => st1' 2 i s fun x rest => xLen T s x rest k
  | 65 => xSw P.2[a]? s k
  | 66 => some ([(i + 1, (s.1, (2, zc (Int.ofNat a)) :: s.2.1, s.2.2))], k)
  | 69 => bif Nat.ble (zcats s.2.1) 8 then st2' 0 0 i s fun x y rest => xMm lo 0 0 s x y rest k else none
  | 70 => bif Nat.ble (zcats s.2.1) 8 then st2' 0 0 i s fun x y rest => xMm lo 0 1 s x y rest k else none
  | 71 => bif Nat.ble (zcats s.2.1) 8 then st2' 1 1 i s fun x y rest => xMm lo 1 0 s x y rest k else none
  | 72 => bif Nat.ble (zcats s.2.1) 8 then st2' 1 1 i s fun x y rest => xMm lo 1 1 s x y rest k else none
  | o => one' i (xMv o s k)
