/-! the run of a constructor tells the truth -/
set_option maxRecDepth 100000 in
theorem pgI_okP : ∀ j, j < 21 → okP (kI j) j (pgI j) = true := by
  intro j hj
  match j, hj with
  | 0, _ => decide +kernel
  | 1, _ => decide +kernel
  | 2, _ => decide +kernel
  | 3, _ => decide +kernel
  | 4, _ => decide +kernel
  | 5, _ => decide +kernel
  | 6, _ => decide +kernel
  | 7, _ => decide +kernel
  | 8, _ => decide +kernel
  | 9, _ => decide +kernel
  | 10, _ => decide +kernel
  | 11, _ => decide +kernel
  | 12, _ => decide +kernel
  | 13, _ => decide +kernel
  | 14, _ => decide +kernel
  | 15, _ => decide +kernel
  | 16, _ => decide +kernel
  | 17, _ => decide +kernel
  | 18, _ => decide +kernel
  | 19, _ => decide +kernel
  | 20, _ => decide +kernel
  | n + 21, h => omega
theorem bltF {a b : Nat} (h : Nat.blt a b = false) : b ≤ a := Nat.le_of_not_lt fun q => by
  have : Nat.blt a b = true := Nat.ble_eq_true_of_le q
  rw [this] at h
  cases h
theorem bltT {a b : Nat} (h : a < b) : Nat.blt a b = true := Nat.ble_eq_true_of_le h
set_option maxRecDepth 100000 in
theorem uOkP {m : Nat} (hm : m < 842) : okP (uK m) (uO m) (uP m) = true := by
  unfold uK uO uP
  cases e : Nat.blt m 821 with
  | true => exact pgT_ok0 m (bltN e)
  | false => have := bltF e; exact pgI_okP (m - 821) (by omega)
theorem u_ft {K : mK} {o : Nat} {P : MP} {i : Nat} {mi : MI} (ok : ok1 K o P i mi = true) (h : mi.2.1 = 49) : mft mi.2.2.2.1 mi.2.2.2.2.1 = tgo mi.2.2.2.2.2 := by
  obtain ⟨pc, op, z, a, b, c⟩ := mi
  replace h : op = 49 := h
  subst h
  have q := and2 ok
  have q2 := and2 q.2
  exact (FT_ok o (z.toNat, a, b, c) (List.contains_iff_mem.mp q2.2)).tag (of_decide_eq_true q2.1)
section GC
variable {K : mK} {o : Nat} {P : MP} {mc ms mc' ms' : Nat} {i pc : Nat} {zz : Int} {a bb cc : Nat} {L : List (Nat × MV)} {h : MH} {Q Q' : MO → MH → Prop}
theorem g_callV (okp : okP K o P = true) (hi : P.1[i]? = some (pc, 67, zz, a, bb, cc)) {q : MR} (hq : mtab[a]? = some q) (hv : q.2.2.2.2 = 0) (hf : fitB K q.1 = true) {As rest : List MV} {r : Int} (hn : As.length = q.2.2.2.1) (hw : (rest.map mcat).sum ≤ 8) (hr : 0 ≤ r ∧ r.toNat < h.1 ∧ (h.2 r.toNat).1 = 16 + q.2.2.1) (hmc : mc' ≤ mc) (hms : ms' ≤ ms) (hM : MCal q.1 q.2.1 mc' ms' ((2, r) :: As) h Q')
    (kk : ∀ (o : MO) (h' : MH), Q' o h' → (o.1 = 0 → MW K Q (mc - mc') (ms - ms') (pcA P (i + 1)) L rest h') ∧ (o.1 = 1 → MW K Q (mc - mc') (ms - ms') (pcA P (i + 1)) L (o.2 :: rest) h')) : MW K Q mc ms (pcA P i) L (As.reverse ++ (2, r) :: rest) h := by
  have ok := okP_at okp hi
  have hp : pcA P i = pc := by
    unfold pcA
    rw [hi]
  obtain ⟨f1, f2⟩ := fitB_of hf
  have mf := mtab_ok q (List.mem_of_getElem? hq)
  obtain ⟨g1, g2, g3, g4, g5, g6⟩ := mf
  rw [hp]
  have o1 := and2 ok.1
  have d := okD_of o1.1
  obtain ⟨r', hr', hl⟩ := MT_ok o (zz.toNat, a) (List.contains_iff_mem.mp o1.2)
  have hr' : mtab[a]? = some r' := hr'
  rw [hq] at hr'
  cases hr'
  rw [← ok.2] at hl
  obtain ⟨s1, s2, T', N', s3⟩ := g6 hv
  have d2 : pc + 3 = pcA P (i + 1) := d.2
  rw [← d2] at kk
  exact m_invokevirtual d.1 f2 g1 s3 hr.1 hr.2.1 hr.2.2 ⟨hl, s1, s2⟩ ⟨rfl, g4.1, g4.2.1, by rw [hn]; exact g4.2.2⟩ f1 hw rfl hmc hms hM kk
end GC
theorem mcl_at {a : Nat} (ha : a < 21) : ∃ r, mcl[a]? = some r := ⟨_, List.getElem?_eq_getElem (show a < mcl.length from ha)⟩
theorem kT_of {a : Nat} {q : MR} (h : mtab[a]? = some q) : kT a = q.1 := by
  unfold kT
  rw [h]
/-- the four cells of the beginning stay -/
def ag4 (h h' : MH) : Prop := ∀ a, a < 4 → h'.2 a = h.2 a
theorem ag4.refl (h : MH) : ag4 h h := fun _ _ => rfl
theorem ag4.trans {a b c : MH} (x : ag4 a b) (y : ag4 b c) : ag4 a c := fun k hk => (y k hk).trans (x k hk)
theorem cFl_of {hb : MH} {a : Nat} {v : Int} : ∀ {k : Nat} {H : CH} {c : CC}, cAt H a = some c → cMH hb (cFl H a v k) = hfill (cMH hb H) a 0 k v ∧ (cFl H a v k).1 = H.1 ∧ (cFl H a v k).2.1 = H.2.1 ∧ ∃ c', cAt (cFl H a v k) a = some c'
  | 0, H, c, e => ⟨(hfill_0 _ _ _ _).symm, rfl, rfl, c, e⟩
  | k + 1, H, c, e => by
    obtain ⟨h1, h2, h3, c', h4⟩ := cFl_of (hb := hb) (v := v) (k := k) e
    refine ⟨?_, h2, h3, ?_⟩
    · show cMH hb (cSt (cFl H a v k) a k v) = _
      rw [cMH_set h4, h1, hfill_s _ _ (Nat.zero_le k)]
    · have hl := cAt_lt h4
      have e' := h4
      unfold cAt at e'
      have z1 : Nat.blt a 4 = false := by
        cases z : Nat.blt a 4 with
        | false => rfl
        | true => have := bltN z; omega
      rw [z1, cond_false, bltT hl.2, cond_true] at e'
      show ∃ c', cAt (cSt (cFl H a v k) a k v) a = some c'
      unfold cAt
      show ∃ c', (bif Nat.blt a 4 then none else bif Nat.blt a (cFl H a v k).1 then zget (cUp (cFl H a v k).2.2 ((cFl H a v k).1 - 1 - a) k v) ((cFl H a v k).1 - 1 - a) else none) = some c'
      rw [z1, cond_false, bltT hl.2, cond_true, cUp_get e', if_pos rfl]
      exact ⟨_, rfl⟩
theorem cMH_mna {hb : MH} {H : CH} (h4 : 4 ≤ H.1) (ok ik n k s : Nat) : hmna (cMH hb H) ok ik n k = cMH (hb.1, fun b => if b < 4 then hb.2 b else if b < H.1 then hb.2 b else (ik, k, fun _ => 0)) (H.1 + (1 + n), s, List.replicate n (ik, k, 0, []) ++ (ok, n, H.1 + 1 + 3, []) :: H.2.2) := by
  unfold hmna
  refine Prod.ext rfl (funext fun b => ?_)
  show (if b < H.1 then (cMH hb H).2 b else if b = H.1 then (ok, n, fun i => if i < n then (H.1 + 1 + i : Nat) else (-1 : Int)) else (ik, k, fun _ => 0)) = (match cAt (H.1 + (1 + n), s, List.replicate n (ik, k, 0, []) ++ (ok, n, H.1 + 1 + 3, []) :: H.2.2) b with
    | some c => cMC c
    | none => if b < 4 then hb.2 b else if b < H.1 then hb.2 b else (ik, k, fun _ => 0))
  have app : ∀ {j : Nat}, zget (List.replicate n (ik, k, 0, []) ++ (ok, n, H.1 + 1 + 3, []) :: H.2.2 : List CC) j = if j < n then some (ik, k, 0, []) else zget ((ok, n, H.1 + 1 + 3, []) :: H.2.2 : List CC) (j - n) := fun {j} => by
    rw [zget_el, zget_el]
    by_cases q : j < n
    · rw [if_pos q, List.getElem?_append_left (by rw [List.length_replicate]; exact q), List.getElem?_replicate, if_pos q]
    · rw [if_neg q, List.getElem?_append_right (by rw [List.length_replicate]; omega), List.length_replicate]
  unfold cAt
  by_cases b4 : b < 4
  · rw [if_pos (by omega), bltT b4]
    show (match cAt H b with
      | some c => cMC c
      | none => hb.2 b) = if b < 4 then hb.2 b else _
    rw [if_pos b4]
    unfold cAt
    rw [bltT b4]
    rfl
  · have z1 : Nat.blt b 4 = false := by
      cases z : Nat.blt b 4 with
      | false => rfl
      | true => exact absurd (bltN z) b4
    rw [z1, cond_false]
    by_cases q1 : b < H.1
    · rw [if_pos q1]
      show (match cAt H b with
        | some c => cMC c
        | none => hb.2 b) = (match (bif Nat.blt b (H.1 + (1 + n)) then zget _ (H.1 + (1 + n) - 1 - b) else none) with
        | some c => cMC c
        | none => if b < 4 then hb.2 b else if b < H.1 then hb.2 b else (ik, k, fun _ => 0))
      rw [bltT (show b < H.1 + (1 + n) by omega), cond_true, app, if_neg (by omega), if_neg b4, if_pos q1]
      unfold cAt
      rw [z1, cond_false, bltT q1, cond_true, show H.1 + (1 + n) - 1 - b - n = (H.1 - 1 - b) + 1 by omega]
      rfl
    · rw [if_neg q1]
      by_cases q2 : b = H.1
      · rw [if_pos q2]
        show _ = (match (bif Nat.blt b (H.1 + (1 + n)) then zget _ (H.1 + (1 + n) - 1 - b) else none) with
          | some c => cMC c
          | none => if b < 4 then hb.2 b else if b < H.1 then hb.2 b else (ik, k, fun _ => 0))
        rw [bltT (show b < H.1 + (1 + n) by omega), cond_true, app, if_neg (by omega), show H.1 + (1 + n) - 1 - b - n = 0 by omega]
        rfl
      · rw [if_neg q2]
        show _ = (match (bif Nat.blt b (H.1 + (1 + n)) then zget _ (H.1 + (1 + n) - 1 - b) else none) with
          | some c => cMC c
          | none => if b < 4 then hb.2 b else if b < H.1 then hb.2 b else (ik, k, fun _ => 0))
        by_cases q3 : b < H.1 + (1 + n)
        · rw [bltT q3, cond_true, app, if_pos (by omega)]
          rfl
        · have z3 : Nat.blt b (H.1 + (1 + n)) = false := by
            cases z : Nat.blt b (H.1 + (1 + n)) with
            | false => rfl
            | true => exact absurd (bltN z) q3
          rw [z3, cond_false, if_neg b4, if_neg q1]

/-- what a run gives, it gives -/
def CrOk (m i : Nat) (L : List (Nat × MV)) (S : List MV) (H : CH) (o : MO) (H' : CH) : Prop := (H.1 ≤ H'.1 ∧ H.2.1 ≤ H'.2.1) ∧ ∀ (hb : MH) (Q : MO → MH → Prop) (mc ms : Nat), H'.1 - H.1 ≤ mc → H'.2.1 - H.2.1 ≤ ms → (∀ hb', ag4 hb hb' → Q o (cMH hb' H')) → MW (uK m) Q mc ms (pcA (uP m) i) L S (cMH hb H)
section CN
variable {m i j : Nat} {L L1 : List (Nat × MV)} {S S1 : List MV} {H H1 H' : CH} {o : MO}
/-- a step behind which the rest goes, with so many cells and elements more -/
theorem CrOk.step (r : CrOk m j L1 S1 H1 o H') (le : H.1 ≤ H1.1 ∧ H.2.1 ≤ H1.2.1) (st : ∀ (hb : MH) (Q : MO → MH → Prop) (mc ms : Nat), H1.1 - H.1 ≤ mc → H1.2.1 - H.2.1 ≤ ms → (∃ hb', ag4 hb hb' ∧ (MW (uK m) Q (mc - (H1.1 - H.1)) (ms - (H1.2.1 - H.2.1)) (pcA (uP m) j) L1 S1 (cMH hb' H1) → MW (uK m) Q mc ms (pcA (uP m) i) L S (cMH hb H)))) : CrOk m i L S H o H' := by
  obtain ⟨⟨r1, r2⟩, r3⟩ := r
  refine ⟨⟨Nat.le_trans le.1 r1, Nat.le_trans le.2 r2⟩, fun hb Q mc ms h1 h2 hq => ?_⟩
  obtain ⟨hb', a, k⟩ := st hb Q mc ms (by omega) (by omega)
  exact k (r3 hb' Q _ _ (by omega) (by omega) fun hb2 a2 => hq hb2 (a.trans a2))
/-- the same, with no more cells -/
theorem CrOk.step0 (r : CrOk m j L1 S1 H1 o H') (e : H1.1 = H.1 ∧ H1.2.1 = H.2.1) (st : ∀ (hb : MH) (Q : MO → MH → Prop) (mc ms : Nat), MW (uK m) Q mc ms (pcA (uP m) j) L1 S1 (cMH hb H1) → MW (uK m) Q mc ms (pcA (uP m) i) L S (cMH hb H)) : CrOk m i L S H o H' :=
  r.step ⟨by omega, by omega⟩ fun hb Q mc ms _ _ => ⟨hb, ag4.refl _, fun k => st hb Q mc ms (by
    rw [show mc - (H1.1 - H.1) = mc by omega, show ms - (H1.2.1 - H.2.1) = ms by omega] at k
    exact k)⟩
end CN
theorem cs1_n {i : Nat} {mi : MI} {L L' : List (Nat × MV)} {S S' : List MV} {H H' : CH} {i' : Nat} (e : cs1 i mi L S H = some (i', L', S', H')) : H'.1 = H.1 ∧ H'.2.1 = H.2.1 := by
  have ast : ∀ {kd tg : Nat} {S : List MV} {S' : List MV} {H' : CH}, cAst kd tg S H = some (S', H') → H'.1 = H.1 ∧ H'.2.1 = H.2.1 := fun {kd tg S S' H'} h => by
    unfold cAst at h
    split at h
    · next v i r S0 =>
      split at h
      · next c e =>
        cases z : (Nat.beq v.1 tg && (Nat.beq c.1 kd && mokB kd v.2)) with
        | false => rw [z] at h; cases h
        | true => rw [z] at h; cases h; exact ⟨rfl, rfl⟩
      · cases h
    · cases h
  have cnd : ∀ {b : Bool} {x y : Option (Nat × List (Nat × MV) × List MV × CH)}, (bif b then x else y) = some (i', L', S', H') → x = some (i', L', S', H') ∨ y = some (i', L', S', H') := fun {b x y} h => by
    cases b with
    | true => exact Or.inl h
    | false => exact Or.inr h
  unfold cs1 at e
  split at e
  · cases e; exact ⟨rfl, rfl⟩
  · cases e; exact ⟨rfl, rfl⟩
  · split at e
    · cases e; exact ⟨rfl, rfl⟩
    · cases e
  · split at e
    · cases e; exact ⟨rfl, rfl⟩
    · cases e
  · split at e
    · cases e; exact ⟨rfl, rfl⟩
    · cases e
  · split at e
    · rcases cnd e with e | e
      · cases e; exact ⟨rfl, rfl⟩
      · cases e
    · cases e
  · split at e
    · rcases cnd e with e | e
      · cases e; exact ⟨rfl, rfl⟩
      · cases e
    · cases e
  · split at e
    · rcases cnd e with e | e
      · cases e; exact ⟨rfl, rfl⟩
      · cases e
    · cases e
  · split at e
    · rcases cnd e with e | e
      · cases e; exact ⟨rfl, rfl⟩
      · cases e
    · cases e
  · split at e
    · rcases cnd e with e | e
      · cases e; exact ⟨rfl, rfl⟩
      · cases e
    · cases e
  · split at e
    · rcases cnd e with e | e
      · cases e; exact ⟨rfl, rfl⟩
      · cases e
    · cases e
  · split at e
    · rcases cnd e with e | e
      · cases e; exact ⟨rfl, rfl⟩
      · cases e
    · cases e
  · split at e
    · rcases cnd e with e | e
      · cases e; exact ⟨rfl, rfl⟩
      · cases e
    · cases e
  · split at e
    · rcases cnd e with e | e
      · cases e; exact ⟨rfl, rfl⟩
      · cases e
    · cases e
  · split at e
    · rcases cnd e with e | e
      · cases e; exact ⟨rfl, rfl⟩
      · cases e
    · cases e
  · cases e; exact ⟨rfl, rfl⟩
  · split at e
    · rcases cnd e with e | e
      · rcases cnd e with e | e
        · cases e; exact ⟨rfl, rfl⟩
        · cases e; exact ⟨rfl, rfl⟩
      · cases e
    · cases e
  · split at e
    · rcases cnd e with e | e
      · rcases cnd e with e | e
        · cases e; exact ⟨rfl, rfl⟩
        · cases e; exact ⟨rfl, rfl⟩
      · cases e
    · cases e
  · split at e
    · rcases cnd e with e | e
      · rcases cnd e with e | e
        · cases e; exact ⟨rfl, rfl⟩
        · cases e; exact ⟨rfl, rfl⟩
      · cases e
    · cases e
  · split at e
    · rcases cnd e with e | e
      · split at e
        · rcases cnd e with e | e
          · split at e
            · cases e; exact ⟨rfl, rfl⟩
            · cases e
          · cases e
        · cases e
      · cases e
    · cases e
  · split at e
    · rcases cnd e with e | e
      · split at e
        · rcases cnd e with e | e
          · cases e; exact ⟨rfl, rfl⟩
          · cases e
        · cases e
      · cases e
    · cases e
  · split at e
    · split at e
      · rcases cnd e with e | e
        · split at e
          · cases e; exact ⟨rfl, rfl⟩
          · cases e
        · cases e
      · cases e
    · cases e
  · split at e
    · next q => cases e; exact ast q
    · cases e
  · split at e
    · next q => cases e; exact ast q
    · cases e
  · split at e
    · split at e
      · rcases cnd e with e | e
        · split at e
          · next q => cases e; exact ast q
          · cases e
        · split at e
          · next q => cases e; exact ast q
          · cases e
      · cases e
    · cases e
  · split at e
    · rcases cnd e with e | e
      · split at e
        · rcases cnd e with e | e
          · cases e; exact ⟨rfl, rfl⟩
          · cases e
        · cases e
      · cases e
    · cases e
  · cases e
