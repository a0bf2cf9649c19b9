/-! what follows from what is known, by scripts of numbers -/
/-- within a rectangle: a cell told by number needs no proof, another one two; so the place, if the rectangle bounds it -/
def zwi (F : List ZT) (lo hi : Nat) (t : ZT) (k : List Nat) : Option (List Nat) := match t.2 with
  | [] => bif zIn (t.1 - Int.ofNat lo) && zIn (Int.ofNat hi - t.1) then some k else none
  | _ => (match rdC k with
    | (c1, k) => (match rdC k with
      | (c2, k) => bif zcert F c1 (zpl t (-Int.ofNat lo)) && zcert F c2 (zsb (zc (Int.ofNat hi)) t) then some k else none))
theorem zwi_of {F : List ZT} {ρ : Nat → Int} (hF : ∀ f ∈ F, 0 ≤ zv ρ f) {lo hi : Nat} {t : ZT} {k k' : List Nat} (h : zwi F lo hi t k = some k') : (lo : Int) ≤ zv ρ t ∧ zv ρ t ≤ (hi : Int) := by
  unfold zwi at h
  split at h
  · next e =>
    cases e2 : (zIn (t.1 - Int.ofNat lo) && zIn (Int.ofNat hi - t.1)) with
    | false => rw [e2] at h; cases h
    | true =>
      obtain ⟨h1, h2⟩ := andB e2
      have h1 := zIn_of h1
      have h2 := zIn_of h2
      have : zv ρ t = t.1 := by
        unfold zv
        rw [e]
        exact Int.add_zero _
      rw [this]
      have a : Int.ofNat lo = (lo : Int) := rfl
      have b : Int.ofNat hi = (hi : Int) := rfl
      omega
  · split at h
    next c1 k1 e1 =>
    split at h
    next c2 k2 e2 =>
    cases e3 : (zcert F c1 (zpl t (-Int.ofNat lo)) && zcert F c2 (zsb (zc (Int.ofNat hi)) t)) with
    | false => rw [e3] at h; cases h
    | true =>
      obtain ⟨h1, h2⟩ := andB e3
      have h1 := zcert_of hF h1
      have h2 := zcert_of hF h2
      rw [zpl_v] at h1
      rw [zsb_v, zc_v] at h2
      have a : Int.ofNat lo = (lo : Int) := rfl
      have b : Int.ofNat hi = (hi : Int) := rfl
      omega
def zrw (F : List ZT) (m : ZR) (r : ZT) (k : List Nat) : Option (List Nat) := bif Nat.beq m.2.1 0 then (match rdC k with
  | (c, k) => bif zcert F c (zpl r (-Int.ofNat m.1)) then some k else none) else zwi F m.1 m.2.1 r k
theorem zrw_of {F : List ZT} {ρ : Nat → Int} (hF : ∀ f ∈ F, 0 ≤ zv ρ f) {m : ZR} {r : ZT} {k k' : List Nat} (h : zrw F m r k = some k') : (m.1 : Int) ≤ zv ρ r ∧ (m.2.1 = 0 ∨ zv ρ r ≤ (m.2.1 : Int)) := by
  unfold zrw at h
  cases e : Nat.beq m.2.1 0 with
  | true =>
    rw [e, cond_true] at h
    split at h
    next c k1 e1 =>
    cases e2 : zcert F c (zpl r (-Int.ofNat m.1)) with
    | false => rw [e2] at h; cases h
    | true =>
      have := zcert_of hF e2
      rw [zpl_v] at this
      have a : Int.ofNat m.1 = (m.1 : Int) := rfl
      exact ⟨by omega, Or.inl (beqN e)⟩
  | false =>
    rw [e, cond_false] at h
    have := zwi_of hF h
    exact ⟨this.1, Or.inr this.2⟩
def zin (F : List ZT) (m : ZR) (r i : ZT) (k : List Nat) : Option (List Nat) := match zrw F m r k with
  | some k => bif Nat.blt m.2.2.2 m.2.2.1 then some k else zwi F m.2.2.1 m.2.2.2 i k
  | none => none
theorem zin_of {F : List ZT} {ρ : Nat → Int} (hF : ∀ f ∈ F, 0 ≤ zv ρ f) {m : ZR} {r i : ZT} {k k' : List Nat} (h : zin F m r i k = some k') : inZ m (zv ρ r) (zv ρ i) := by
  unfold zin at h
  split at h
  · next k1 e1 =>
    refine ⟨zrw_of hF e1, ?_⟩
    cases e : Nat.blt m.2.2.2 m.2.2.1 with
    | true => exact Or.inl (bltN e)
    | false =>
      rw [e] at h
      exact Or.inr (zwi_of hF h)
  · cases h
/-- two terms are the same: at once, or by two proofs -/
def zsame (F : List ZT) (a b : ZT) (k : List Nat) : Option (List Nat) := bif zeq a b then some k else match rdC k with
  | (c1, k) => (match rdC k with
    | (c2, k) => bif zcert F c1 (zsb a b) && zcert F c2 (zsb b a) then some k else none)
theorem zsame_of {F : List ZT} {ρ : Nat → Int} (hF : ∀ f ∈ F, 0 ≤ zv ρ f) {a b : ZT} {k k' : List Nat} (h : zsame F a b k = some k') : zv ρ a = zv ρ b := by
  unfold zsame at h
  cases e : zeq a b with
  | true => rw [zeq_of e]
  | false =>
    rw [e] at h
    replace h : (match rdC k with
      | (c1, k) => (match rdC k with
        | (c2, k) => bif zcert F c1 (zsb a b) && zcert F c2 (zsb b a) then some k else none)) = some k' := h
    split at h
    next c1 k1 e1 =>
    split at h
    next c2 k2 e2 =>
    cases e3 : (zcert F c1 (zsb a b) && zcert F c2 (zsb b a)) with
    | false => rw [e3] at h; cases h
    | true =>
      obtain ⟨h1, h2⟩ := andB e3
      have h1 := zcert_of hF h1
      have h2 := zcert_of hF h2
      rw [zsb_v] at h1 h2
      omega
def zzip : List Nat → List ZT → List (Nat × ZT)
  | v :: r, t :: s => (v, t) :: zzip r s
  | _, _ => []
/-- the equations of a clause, with terms for its variables, are atoms -/
def zeqs (K : ZK) (σ : List (Nat × ZT)) : List ZE → List Nat → Option (List Nat)
  | [], k => some k
  | e :: r, a :: k => (match zget K.2.2.1 a with
    | some q => bif zeq q.1 (zS σ e.2.1) && (zeq q.2.1 (zS σ e.2.2.1) && zeq q.2.2 (zS σ e.2.2.2)) then (match zin K.1 e.1 q.1 q.2.1 k with
      | some k => zeqs K σ r k
      | none => none) else none
    | none => none)
  | _ :: _, [] => none
theorem zeqs_of {G : ZG} {ρ : Nat → Int} {h : MH} {K : ZK} (B : Kn G ρ h K) {σ : List (Nat × ZT)} : ∀ {es : List ZE} {k k' : List Nat}, zeqs K σ es k = some k' → ∀ e ∈ es, zE (zσ σ ρ) h e
  | [], _, _, _, e, he => absurd he List.not_mem_nil
  | x :: r, a :: k, k', hh, e, he => by
    unfold zeqs at hh
    split at hh
    · next q hq =>
      cases e3 : (zeq q.1 (zS σ x.2.1) && (zeq q.2.1 (zS σ x.2.2.1) && zeq q.2.2 (zS σ x.2.2.2))) with
      | false => rw [e3] at hh; cases hh
      | true =>
        rw [e3] at hh
        replace hh : (match zin K.1 x.1 q.1 q.2.1 k with
          | some k => zeqs K σ r k
          | none => none) = some k' := hh
        obtain ⟨h1, h2⟩ := andB e3
        obtain ⟨h2, h3⟩ := andB h2
        split at hh
        · next k1 e1 =>
          rcases List.mem_cons.mp he with z | z
          · subst z
            have i := zin_of B.1 e1
            have m := B.2.2.1 q (zget_mem hq)
            unfold zA at m
            rw [zeq_of h1, zeq_of h2] at i
            rw [zeq_of h1, zeq_of h2, zeq_of h3] at m
            rw [zS_v, zS_v] at i
            rw [zS_v, zS_v, zS_v] at m
            exact ⟨i, m⟩
          · exact zeqs_of B hh e z
        · cases hh
    · cases hh
  | _ :: _, [], _, hh, _, _ => by cases hh
def zbody (G : ZG) (c : ZC) : Option ZB := match c.1 with
  | 0 => some c.2
  | k + 1 => G.1 (k + 1)
theorem zbody_of {G : ZG} {ρ : Nat → Int} {h : MH} {c : ZC} {b : ZB} (e : zbody G c = some b) (k : zCl G ρ h c) : zB ρ h b := by
  obtain ⟨m, b'⟩ := c
  match m, e, k with
  | 0, e, k => cases e; exact k
  | m + 1, e, k =>
    replace k : zGl G (m + 1) h := k
    replace e : G.1 (m + 1) = some b := e
    unfold zGl at k
    rw [e] at k
    exact k ρ
theorem zσ_zip {bs : List Nat} {ts : List ZT} {ρ : Nat → Int} {v : Nat} (h : zmem v bs = false) : zσ (zzip bs ts) ρ v = ρ v := by
  refine zσ_no ?_
  induction bs generalizing ts with
  | nil => rfl
  | cons b r ih =>
    obtain ⟨h1, h2⟩ := orF h
    cases ts with
    | nil => rfl
    | cons t s =>
      show (Nat.beq b v || (zzip r s).any _) = false
      rw [h1, ih h2]
      rfl
/-- instance of clause j -/
def gInst (G : ZG) (K : ZK) (k : List Nat) : Option (ZK × List Nat) := match k with
  | j :: k => (match zget K.2.2.2 j with
    | some c => (match zbody G c with
      | some b => (match rdTs b.1.length k with
        | (ts, k) => (match zeqs K (zzip b.1 ts) b.2.1 k with
          | some k => (match rdCs b.2.2.1.length k with
            | (cs, k) => bif zcerts K.1 cs (b.2.2.1.map (zS (zzip b.1 ts))) then some ((b.2.2.2.map (zS (zzip b.1 ts)) ++ K.1, K.2), k) else none)
          | none => none))
      | none => none)
    | none => none)
  | [] => none
theorem gInst_of {G : ZG} {ρ : Nat → Int} {h : MH} {K K' : ZK} {k k' : List Nat} (B : Kn G ρ h K) (e : gInst G K k = some (K', k')) : Kn G ρ h K' := by
  unfold gInst at e
  split at e
  · next j k =>
    split at e
    · next c hc =>
      split at e
      · next b hb =>
        split at e
        next ts k1 e1 =>
        split at e
        · next k2 e2 =>
          split at e
          next cs k3 e3 =>
          cases e4 : zcerts K.1 cs (b.2.2.1.map (zS (zzip b.1 ts))) with
          | false => rw [e4] at e; cases e
          | true =>
            rw [e4] at e
            cases e
            have z := zbody_of hb (B.2.2.2 c (zget_mem hc))
            have q := z (zσ (zzip b.1 ts) ρ) (fun v hv => zσ_zip hv) (zeqs_of B e2) (fun g hg => by
              have := zcerts_of B.1 e4 (zS (zzip b.1 ts) g) (List.mem_map.mpr ⟨g, hg, rfl⟩)
              rw [zS_v] at this
              exact this)
            refine B.facts fun g hg => ?_
            obtain ⟨c', m, rfl⟩ := List.mem_map.mp hg
            rw [zS_v]
            exact q c' m
        · cases e
      · cases e
    · cases e
  · cases e
/-- what lies somewhere gets a name -/
def gName (fr : Nat → Bool) (K : ZK) (k : List Nat) : Option (ZK × List Nat) := match k with
  | n :: k => (match rdT k with
    | (r, k) => (match rdT k with
      | (i, k) => bif fr n && (!(zocK (Nat.beq n) K) && (!(zoc (Nat.beq n) r) && !(zoc (Nat.beq n) i))) then some ((K.1, K.2.1, (r, i, zx n) :: K.2.2.1, K.2.2.2), k) else none))
  | [] => none
theorem notB {x : Bool} (h : (!x) = true) : x = false := by
  cases x
  · rfl
  · cases h
theorem gName_of {G : ZG} {fr : Nat → Bool} {ρ : Nat → Int} {h : MH} {K K' : ZK} {k k' : List Nat} (B : Kn G ρ h K) (e : gName fr K k = some (K', k')) : ∃ ρ', (∀ v, fr v = false → ρ' v = ρ v) ∧ Kn G ρ' h K' := by
  unfold gName at e
  split at e
  · next n k =>
    split at e
    next r k1 e1 =>
    split at e
    next i k2 e2 =>
    cases e3 : (fr n && (!(zocK (Nat.beq n) K) && (!(zoc (Nat.beq n) r) && !(zoc (Nat.beq n) i)))) with
    | false => rw [e3] at e; cases e
    | true =>
      rw [e3] at e
      cases e
      obtain ⟨h1, h2⟩ := andB e3
      obtain ⟨h2, h3⟩ := andB h2
      obtain ⟨h3, h4⟩ := andB h3
      refine ⟨zup ρ n (gz h (zv ρ r) (zv ρ i)), fun v hv => zup_no ρ _ ?_, (B.up _ (notB h2)).atom ?_⟩
      · cases w : Nat.beq n v with
        | false => rfl
        | true => rw [beqN w, hv] at h1; cases h1
      · unfold zA
        rw [zoc_up (notB h3), zoc_up (notB h4), zx_v, zup_at]
  · cases e
/-- two atoms of one place -/
def gCong (K : ZK) (k : List Nat) : Option (ZK × List Nat) := match k with
  | a :: b :: k => (match zget K.2.2.1 a, zget K.2.2.1 b with
    | some p, some q => (match zsame K.1 p.1 q.1 k with
      | some k => (match zsame K.1 p.2.1 q.2.1 k with
        | some k => some ((zsb p.2.2 q.2.2 :: zsb q.2.2 p.2.2 :: K.1, K.2), k)
        | none => none)
      | none => none)
    | _, _ => none)
  | _ => none
theorem gCong_of {G : ZG} {ρ : Nat → Int} {h : MH} {K K' : ZK} {k k' : List Nat} (B : Kn G ρ h K) (e : gCong K k = some (K', k')) : Kn G ρ h K' := by
  unfold gCong at e
  split at e
  · next a b k =>
    split at e
    · next p q hp hq =>
      split at e
      · next k1 e1 =>
        split at e
        · next k2 e2 =>
          cases e
          have m1 := B.2.2.1 p (zget_mem hp)
          have m2 := B.2.2.1 q (zget_mem hq)
          unfold zA at m1 m2
          rw [zsame_of B.1 e1, zsame_of B.1 e2] at m1
          have s := m1.symm.trans m2
          exact (B.fact (g := zsb q.2.2 p.2.2) (by rw [zsb_v]; omega)).fact (g := zsb p.2.2 q.2.2) (by rw [zsb_v]; omega)
        · cases e
      · cases e
    · cases e
  · cases e
/-- of facts of which one holds all but one fall -/
def zfall (F : List ZT) (j : Nat) : Nat → List ZT → List Nat → Option (List Nat)
  | _, [], k => some k
  | n, f :: r, k => bif Nat.beq n j then zfall F j (n + 1) r k else match rdC k with
    | (c, k) => bif zcert F c (zpl (zsm (-1) f) (-1)) then zfall F j (n + 1) r k else none
theorem zfall_of {F : List ZT} {ρ : Nat → Int} (hF : ∀ f ∈ F, 0 ≤ zv ρ f) {j : Nat} : ∀ {n : Nat} {d : List ZT} {k k' : List Nat}, zfall F j n d k = some k' → ∀ m, m + n ≠ j → ∀ f, zget d m = some f → ¬ 0 ≤ zv ρ f
  | n, [], k, k', h, m, hm, f, hf => by cases hf
  | n, x :: r, k, k', h, m, hm, f, hf => by
    have step : ∀ {k1 : List Nat}, zfall F j (n + 1) r k1 = some k' → Nat.beq m 0 = false → ¬ 0 ≤ zv ρ f := fun h1 hz => by
      have hf : zget r (m - 1) = some f := by
        unfold zget at hf
        rw [hz] at hf
        exact hf
      have := beqN_no hz
      exact zfall_of hF h1 (m - 1) (by omega) f hf
    unfold zfall at h
    cases e : Nat.beq n j with
    | true =>
      rw [e] at h
      have e := beqN e
      cases z : Nat.beq m 0 with
      | true => exact absurd (show m + n = j by rw [beqN z, e]; omega) hm
      | false => exact step h z
    | false =>
      rw [e] at h
      replace h : (match rdC k with
        | (c, k) => bif zcert F c (zpl (zsm (-1) x) (-1)) then zfall F j (n + 1) r k else none) = some k' := h
      split at h
      next c k1 e1 =>
      cases e2 : zcert F c (zpl (zsm (-1) x) (-1)) with
      | false => rw [e2] at h; cases h
      | true =>
        rw [e2] at h
        cases z : Nat.beq m 0 with
        | true =>
          unfold zget at hf
          rw [z] at hf
          cases hf
          have p := zcert_of hF e2
          rw [zpl_v, zsm_v] at p
          omega
        | false => exact step h z
theorem mem_zget {α : Type} {x : α} : ∀ {l : List α}, x ∈ l → ∃ n, zget l n = some x
  | [], h => absurd h List.not_mem_nil
  | y :: r, h => by
    rcases List.mem_cons.mp h with e | e
    · exact ⟨0, by rw [e]; rfl⟩
    · obtain ⟨n, hn⟩ := mem_zget e
      exact ⟨n + 1, hn⟩
def gUnit (K : ZK) (k : List Nat) : Option (ZK × List Nat) := match k with
  | d :: j :: k => (match zget K.2.1 d with
    | some l => (match zget l j with
      | some f => (match zfall K.1 j 0 l k with
        | some k => some ((f :: K.1, K.2), k)
        | none => none)
      | none => none)
    | none => none)
  | _ => none
theorem gUnit_of {G : ZG} {ρ : Nat → Int} {h : MH} {K K' : ZK} {k k' : List Nat} (B : Kn G ρ h K) (e : gUnit K k = some (K', k')) : Kn G ρ h K' := by
  unfold gUnit at e
  split at e
  · next d j k =>
    split at e
    · next l hl =>
      split at e
      · next f hf =>
        split at e
        · next k1 e1 =>
          cases e
          refine B.fact ?_
          obtain ⟨g, m, p⟩ := B.2.1 l (zget_mem hl)
          obtain ⟨n, hn⟩ := mem_zget m
          by_cases w : n = j
          · subst w
            rw [hf] at hn
            cases hn
            exact p
          · exact absurd p (zfall_of B.1 e1 n (by omega) g hn)
        · cases e
      · cases e
    · cases e
  · cases e
/-- of facts of which one holds: all fall; nothing of this can be -/
def gNone (K : ZK) (k : List Nat) : Option (List Nat) := match k with
  | d :: k => (match zget K.2.1 d with
    | some l => zfall K.1 l.length 0 l k
    | none => none)
  | [] => none
theorem zget_lt {α : Type} : ∀ {l : List α} {n : Nat} {x : α}, zget l n = some x → n < l.length
  | [], n, x, h => by cases h
  | y :: r, n, x, h => by
    unfold zget at h
    cases e : Nat.beq n 0 with
    | true => rw [beqN e]; exact Nat.succ_pos _
    | false =>
      rw [e] at h
      have := zget_lt (l := r) h
      show n < r.length + 1
      omega
theorem gNone_of {G : ZG} {ρ : Nat → Int} {h : MH} {K : ZK} {k k' : List Nat} (B : Kn G ρ h K) (e : gNone K k = some k') : False := by
  unfold gNone at e
  split at e
  · next d k =>
    split at e
    · next l hl =>
      obtain ⟨g, m, p⟩ := B.2.1 l (zget_mem hl)
      obtain ⟨n, hn⟩ := mem_zget m
      have := zget_lt hn
      exact zfall_of B.1 e n (by omega) g hn p
    · cases e
  · cases e
def zpick {α : Type} (l : List α) : List Nat → List α
  | [] => []
  | n :: r => match zget l n with
    | some x => x :: zpick l r
    | none => zpick l r
theorem zpick_mem {α : Type} {l : List α} : ∀ {ns : List Nat} {x : α}, x ∈ zpick l ns → x ∈ l
  | [], x, h => absurd h List.not_mem_nil
  | n :: r, x, h => by
    unfold zpick at h
    split at h
    · next y hy =>
      rcases List.mem_cons.mp h with e | e
      · exact e ▸ zget_mem hy
      · exact zpick_mem e
    · exact zpick_mem h
/-- what is needed no more goes: of facts, alternatives, atoms, clauses these stay -/
def gKeep (w : Nat) (K : ZK) (k : List Nat) : Option (ZK × List Nat) := match k with
  | n :: k => (match rdNs n k with
    | (ns, k) => some (match w with
      | 0 => ((zpick K.1 ns, K.2), k)
      | 1 => ((K.1, zpick K.2.1 ns, K.2.2), k)
      | 2 => ((K.1, K.2.1, zpick K.2.2.1 ns, K.2.2.2), k)
      | _ => ((K.1, K.2.1, K.2.2.1, zpick K.2.2.2 ns), k)))
  | [] => none
theorem gKeep_of {G : ZG} {ρ : Nat → Int} {h : MH} {w : Nat} {K K' : ZK} {k k' : List Nat} (B : Kn G ρ h K) (e : gKeep w K k = some (K', k')) : Kn G ρ h K' := by
  unfold gKeep at e
  split at e
  · next n k =>
    split at e
    next ns k1 e1 =>
    match w, e with
    | 0, e => cases e; exact ⟨fun f hf => B.1 f (zpick_mem hf), B.2⟩
    | 1, e => cases e; exact ⟨B.1, fun f hf => B.2.1 f (zpick_mem hf), B.2.2⟩
    | 2, e => cases e; exact ⟨B.1, B.2.1, fun f hf => B.2.2.1 f (zpick_mem hf), B.2.2.2⟩
    | w + 3, e => cases e; exact ⟨B.1, B.2.1, B.2.2.1, fun f hf => B.2.2.2 f (zpick_mem hf)⟩
  · cases e
def gFact (K : ZK) (k : List Nat) : Option (ZK × List Nat) := match rdT k with
  | (t, k) => (match rdC k with
    | (c, k) => bif zcert K.1 c t then some ((t :: K.1, K.2), k) else none)
theorem gFact_of {G : ZG} {ρ : Nat → Int} {h : MH} {K K' : ZK} {k k' : List Nat} (B : Kn G ρ h K) (e : gFact K k = some (K', k')) : Kn G ρ h K' := by
  unfold gFact at e
  split at e
  next t k1 e1 =>
  split at e
  next c k2 e2 =>
  cases e3 : zcert K.1 c t with
  | false => rw [e3] at e; cases e
  | true =>
    rw [e3] at e
    cases e
    exact B.fact (zcert_of B.1 e3)
/-- alternatives that follow from others, or from a number's being below 0 or not -/
def zcov (F : List ZT) (ts : List ZT) : List ZT → List Nat → Option (List Nat)
  | [], k => some k
  | f :: r, j :: k => (match zget ts j with
    | some t => (match rdC k with
      | (c, k) => bif zcert (f :: F) c t then zcov F ts r k else none)
    | none => none)
  | _ :: _, [] => none
theorem zcov_of {F ts : List ZT} {ρ : Nat → Int} (hF : ∀ f ∈ F, 0 ≤ zv ρ f) : ∀ {l : List ZT} {k k' : List Nat}, zcov F ts l k = some k' → ∀ f ∈ l, 0 ≤ zv ρ f → ∃ t ∈ ts, 0 ≤ zv ρ t
  | [], _, _, _, f, hf, _ => absurd hf List.not_mem_nil
  | x :: r, [], _, h, _, _, _ => by cases h
  | x :: r, j :: k, k', h, f, hf, q => by
    unfold zcov at h
    split at h
    · next t ht =>
      split at h
      next c k1 e1 =>
      cases e2 : zcert (x :: F) c t with
      | false => rw [e2] at h; cases h
      | true =>
        rw [e2, cond_true] at h
        rcases List.mem_cons.mp hf with w | w
        · exact ⟨t, zget_mem ht, zcert_of (List.forall_mem_cons.mpr ⟨w ▸ q, hF⟩) e2⟩
        · exact zcov_of hF h f w q
    · cases h
def gAlt (K : ZK) (k : List Nat) : Option (ZK × List Nat) := match k with
  | d :: n :: k => (match (bif Nat.beq d 60000 then (match rdT k with
      | (t, k) => some ([t, zpl (zsm (-1) t) (-1)], k)) else (match zget K.2.1 d with
      | some l => some (l, k)
      | none => none)) with
    | some (l, k) => (match rdTs n k with
      | (ts, k) => (match zcov K.1 ts l k with
        | some k => some ((K.1, ts :: K.2.1, K.2.2), k)
        | none => none))
    | none => none)
  | _ => none
theorem gAlt_of {G : ZG} {ρ : Nat → Int} {h : MH} {K K' : ZK} {k k' : List Nat} (B : Kn G ρ h K) (e : gAlt K k = some (K', k')) : Kn G ρ h K' := by
  unfold gAlt at e
  split at e
  · next d n k =>
    split at e
    · next l k1 e1 =>
      split at e
      next ts k2 e2 =>
      split at e
      · next k3 e3 =>
        cases e
        refine B.alt ?_
        have hl : ∃ f ∈ l, 0 ≤ zv ρ f := by
          cases w : Nat.beq d 60000 with
          | true =>
            rw [w, cond_true] at e1
            split at e1
            next t k4 e4 =>
            cases e1
            by_cases q : 0 ≤ zv ρ t
            · exact ⟨_, List.mem_cons_self, q⟩
            · exact ⟨_, List.mem_cons_of_mem _ List.mem_cons_self, by rw [zpl_v, zsm_v]; omega⟩
          | false =>
            rw [w, cond_false] at e1
            split at e1
            · next l' hl =>
              cases e1
              exact B.2.1 _ (zget_mem hl)
            · cases e1
        obtain ⟨f, m, q⟩ := hl
        exact zcov_of B.1 e3 f m q
      · cases e
    · cases e
  · cases e
/-- what lies at a place, said otherwise -/
def gRw (K : ZK) (k : List Nat) : Option (ZK × List Nat) := match k with
  | a :: k => (match zget K.2.2.1 a with
    | some p => (match rdT k with
      | (t, k) => (match rdCs 2 k with
        | (cs, k) => bif zcerts K.1 cs [zsb p.2.2 t, zsb t p.2.2] then some ((K.1, K.2.1, (p.1, p.2.1, t) :: K.2.2.1, K.2.2.2), k) else none))
    | none => none)
  | [] => none
theorem gRw_of {G : ZG} {ρ : Nat → Int} {h : MH} {K K' : ZK} {k k' : List Nat} (B : Kn G ρ h K) (e : gRw K k = some (K', k')) : Kn G ρ h K' := by
  unfold gRw at e
  split at e
  · next a k =>
    split at e
    · next p hp =>
      split at e
      next t k1 e1 =>
      split at e
      next cs k2 e2 =>
      cases e3 : zcerts K.1 cs [zsb p.2.2 t, zsb t p.2.2] with
      | false => rw [e3] at e; cases e
      | true =>
        rw [e3] at e
        cases e
        have c := zcerts_of B.1 e3
        have c1 := c _ List.mem_cons_self
        have c2 := c _ (List.mem_cons_of_mem _ List.mem_cons_self)
        rw [zsb_v] at c1 c2
        have m := B.2.2.1 _ (zget_mem hp)
        refine B.atom ?_
        unfold zA at m ⊢
        show gz h (zv ρ p.1) (zv ρ p.2.1) = zv ρ t
        rw [m]
        omega
    · cases e
  · cases e
/-- what is there lies below the number of all -/
def gSz (K : ZK) (k : List Nat) : Option (ZK × List Nat) := match k with
  | ai :: si :: k => (match zget K.2.2.1 ai, zget K.2.2.1 si with
    | some a, some b => (match rdC k with
      | (c, k) => bif zeq a.2.1 (zc 1099511627776) && (zeq b.1 (zc 2628) && (zeq b.2.1 (zc 1099511627778) && zcert K.1 c (zpl a.2.2 (-1)))) then some ((zpl (zsb b.2.2 a.1) (-1) :: K.1, K.2), k) else none)
    | _, _ => none)
  | _ => none
theorem gSz_of {G : ZG} {ρ : Nat → Int} {h : MH} {K K' : ZK} {k k' : List Nat} (B : Kn G ρ h K) (e : gSz K k = some (K', k')) : Kn G ρ h K' := by
  unfold gSz at e
  split at e
  · next ai si k =>
    split at e
    · next a b ha hb =>
      split at e
      next c k1 e1 =>
      cases e2 : (zeq a.2.1 (zc 1099511627776) && (zeq b.1 (zc 2628) && (zeq b.2.1 (zc 1099511627778) && zcert K.1 c (zpl a.2.2 (-1))))) with
      | false => rw [e2] at e; cases e
      | true =>
        rw [e2, cond_true] at e
        cases e
        obtain ⟨h1, h2⟩ := andB e2
        obtain ⟨h2, h3⟩ := andB h2
        obtain ⟨h3, h4⟩ := andB h3
        have c1 := zcert_of B.1 h4
        rw [zpl_v] at c1
        have m1 := B.2.2.1 _ (zget_mem ha)
        have m2 := B.2.2.1 _ (zget_mem hb)
        unfold zA at m1 m2
        rw [zeq_of h1, zc_v] at m1
        rw [zeq_of h2, zeq_of h3, zc_v, zc_v, gz_sz] at m2
        obtain ⟨q1, q2, _⟩ := gz_kd (h := h) (r := zv ρ a.1) (by rw [m1]; omega)
        refine B.fact ?_
        rw [zpl_v, zsb_v, ← m2]
        omega
    · cases e
  · cases e
/-- no more places than numbers -/
theorem php : ∀ (N n : Nat) (f : Nat → Nat), (∀ k, k < n → f k < N) → (∀ j k, j < n → k < n → f j = f k → j = k) → n ≤ N
  | 0, n, f, h1, _ => by
    rcases Nat.eq_zero_or_pos n with z | z
    · omega
    · exact absurd (h1 0 z) (Nat.not_lt_zero _)
  | N + 1, n, f, h1, h2 => by
    by_cases w : ∃ k0, k0 < n ∧ f k0 = N
    · obtain ⟨k0, k1, k2⟩ := w
      have r := php N (n - 1) (fun k => f (if k < k0 then k else k + 1)) (fun k hk => by
        have a : (if k < k0 then k else k + 1) < n := by split <;> omega
        have b : f (if k < k0 then k else k + 1) ≠ N := fun z => by
          have := h2 _ _ a k1 (z.trans k2.symm)
          split at this <;> omega
        have := h1 _ a
        show f (if k < k0 then k else k + 1) < N
        omega) (fun j k hj hk z => by
        have a : (if j < k0 then j else j + 1) < n := by split <;> omega
        have b : (if k < k0 then k else k + 1) < n := by split <;> omega
        have := h2 _ _ a b z
        split at this <;> split at this <;> omega)
      omega
    · have r := php N n f (fun k hk => by
        have := h1 k hk
        have : f k ≠ N := fun z => w ⟨k, hk, z⟩
        omega) h2
      omega
theorem php1 {N n v : Nat} {f : Nat → Nat} (h1 : ∀ k, k < n → f k < N) (h2 : ∀ j k, j < n → k < n → f j = f k → j = k) (hv : v < N) (hn : ∀ k, k < n → f k ≠ v) : n + 1 ≤ N := by
  refine php N (n + 1) (fun k => if k < n then f k else v) (fun k hk => ?_) fun j k hj hk z => ?_
  · by_cases w : k < n
    · show (if k < n then f k else v) < N
      rw [if_pos w]; exact h1 k w
    · show (if k < n then f k else v) < N
      rw [if_neg w]; exact hv
  · replace z : (if j < n then f j else v) = (if k < n then f k else v) := z
    by_cases w : j < n
    · rw [if_pos w] at z
      by_cases u : k < n
      · rw [if_pos u] at z; exact h2 j k w u z
      · rw [if_neg u] at z; exact absurd z (hn j w)
    · rw [if_neg w] at z
      by_cases u : k < n
      · rw [if_pos u] at z; exact absurd z.symm (hn k u)
      · omega
/-- rows of cells made since, all places but those behind -/
def isDY (m : ZR) : Bool := Nat.beq m.1 2628 && (Nat.beq m.2.1 0 && (Nat.beq m.2.2.1 0 && Nat.beq m.2.2.2 1099511627775))
theorem isDY_of {m : ZR} (h : isDY m = true) {r i : Int} (hr : 2628 ≤ r) (i0 : 0 ≤ i) (i1 : i < 1099511627776) : inZ m r i := by
  obtain ⟨h1, h2⟩ := andB h
  obtain ⟨h2, h3⟩ := andB h2
  obtain ⟨h3, h4⟩ := andB h3
  have := beqN h1
  have := beqN h2
  have := beqN h3
  have := beqN h4
  unfold inZ
  refine ⟨⟨by omega, by omega⟩, Or.inr ⟨by omega, by omega⟩⟩
/-- numbers at the places 0 .. n - 1 of H are below N and not below 0; S tells of each where it stands; so there are fewer than N, if S tells of v that it stands nowhere -/
def gPg (K : ZK) (k : List Nat) : Option (ZK × List Nat) := match k with
  | c1 :: c2 :: vi :: k => (match zget K.2.2.2 c1, zget K.2.2.2 c2, zget K.2.2.1 vi with
    | some (0, ([b0, b1], [(m1, H, i1, y1)], [g1, g2], [u1, u2])), some (0, ([a0, a1, a2], [(m2, H2, i2, y2), (m3, S, i3, y3)], [g3, g4], [u3, u4])), some v => (match rdT k with
      | (t, k) => (match rdT k with
        | (N, k) => (match rdCs 8 k with
          | (cs, k) => bif isDY m1 && (isDY m2 && (isDY m3 && (!(Nat.beq b0 b1) && (!(Nat.beq a0 a1) && (!(Nat.beq a0 a2) && (!(Nat.beq a1 a2) && (zeq i1 (zx b0) && (zeq y1 (zx b1) && (zeq g1 (zx b0) && (zeq g2 (zpl (zsb t (zx b0)) (-1)) && (zeq u1 (zx b1) && (zeq u2 (zpl (zsb N (zx b1)) (-1)) && (zeq i2 (zx a0) && (zeq y2 (zx a1) && (zeq i3 (zx a1) && (zeq y3 (zx a2) && (zeq g3 (zx a0) && (zeq g4 (zpl (zsb t (zx a0)) (-1)) && (zeq u3 (zsb (zx a2) (zx a0)) && (zeq u4 (zsb (zx a0) (zx a2)) && (zeq H2 H && (zeq v.1 S && ([H, S, t, N].all (fun x => !(zoc (fun u => zmem u [b0, b1, a0, a1, a2]) x)) && zcerts K.1 cs [zpl H (-2628), zpl S (-2628), t, zsb (zc 1000000000) t, zsb (zc 1000000000) N, v.2.1, zpl (zsb N v.2.1) (-1), zpl (zsm (-1) v.2.2) (-1)]))))))))))))))))))))))) then some ((zpl (zsb N t) (-1) :: K.1, K.2), k) else none)))
    | _, _, _ => none)
  | _ => none
theorem allP2 {α : Type} {P : α → Prop} {a b : α} (ha : P a) (hb : P b) : ∀ f ∈ [a, b], P f := List.forall_mem_cons.mpr ⟨ha, List.forall_mem_cons.mpr ⟨hb, fun _ q => absurd q List.not_mem_nil⟩⟩
theorem bifS {α : Type} {c : Bool} {x y : α} (h : (bif c then some x else none) = some y) : c = true ∧ x = y := by
  cases c with
  | false => cases h
  | true => cases h; exact ⟨rfl, rfl⟩
theorem zmem_ne {v n : Nat} {r : List Nat} (h : zmem v (n :: r) = false) : v ≠ n ∧ zmem v r = false := by
  obtain ⟨h1, h2⟩ := orF h
  exact ⟨fun z => beqN_no h1 z.symm, h2⟩
theorem notBeq {a b : Nat} (h : (!(Nat.beq a b)) = true) : a ≠ b := beqN_no (notB h)
theorem gPg_of {G : ZG} {ρ : Nat → Int} {h : MH} {K K' : ZK} {k k' : List Nat} (B : Kn G ρ h K) (e : gPg K k = some (K', k')) : Kn G ρ h K' := by
  unfold gPg at e
  split at e
  · next c1 c2 vi k =>
    split at e
    · next b0 b1 m1 H i1 y1 g1 g2 u1 u2 a0 a1 a2 m2 H2 i2 y2 m3 S i3 y3 g3 g4 u3 u4 v hc1 hc2 hv =>
      split at e
      next t k1 e1 =>
      split at e
      next N k2 e2 =>
      split at e
      next cs k3 e3 =>
      obtain ⟨hc, e⟩ := bifS e
      cases e
      obtain ⟨q1, hc⟩ := andB hc
      obtain ⟨q2, hc⟩ := andB hc
      obtain ⟨q3, hc⟩ := andB hc
      obtain ⟨n1, hc⟩ := andB hc
      obtain ⟨n2, hc⟩ := andB hc
      obtain ⟨n3, hc⟩ := andB hc
      obtain ⟨n4, hc⟩ := andB hc
      obtain ⟨w1, hc⟩ := andB hc
      obtain ⟨w2, hc⟩ := andB hc
      obtain ⟨w3, hc⟩ := andB hc
      obtain ⟨w4, hc⟩ := andB hc
      obtain ⟨w5, hc⟩ := andB hc
      obtain ⟨w6, hc⟩ := andB hc
      obtain ⟨w7, hc⟩ := andB hc
      obtain ⟨w8, hc⟩ := andB hc
      obtain ⟨w9, hc⟩ := andB hc
      obtain ⟨w10, hc⟩ := andB hc
      obtain ⟨w11, hc⟩ := andB hc
      obtain ⟨w12, hc⟩ := andB hc
      obtain ⟨w13, hc⟩ := andB hc
      obtain ⟨w14, hc⟩ := andB hc
      obtain ⟨w15, hc⟩ := andB hc
      obtain ⟨w16, hc⟩ := andB hc
      obtain ⟨hall, hcs⟩ := andB hc
      have hall := List.all_eq_true.mp hall
      have cf := zcerts_of B.1 hcs
      have ev : ∀ x ∈ [H, S, t, N], ∀ β : Nat → Int, (∀ u, zmem u [b0, b1, a0, a1, a2] = false → β u = ρ u) → zv β x = zv ρ x := fun x hx β hβ => zoc_no (notB (hall x hx)) hβ
      have f1 := cf _ (by simp : zpl H (-2628) ∈ _)
      have f2 := cf _ (by simp : zpl S (-2628) ∈ _)
      have f3 := cf _ (by simp : t ∈ _)
      have f4 := cf _ (by simp : zsb (zc 1000000000) t ∈ _)
      have f5 := cf _ (by simp : zsb (zc 1000000000) N ∈ _)
      have f6 := cf _ (by simp : v.2.1 ∈ _)
      have f7 := cf _ (by simp : zpl (zsb N v.2.1) (-1) ∈ _)
      have f8 := cf _ (by simp : zpl (zsm (-1) v.2.2) (-1) ∈ _)
      rw [zpl_v] at f1 f2
      rw [zsb_v, zc_v] at f4 f5
      rw [zpl_v, zsb_v] at f7
      rw [zpl_v, zsm_v] at f8
      have mv := B.2.2.1 _ (zget_mem hv)
      unfold zA at mv
      rw [zeq_of w16] at mv
      have n1 := notBeq n1
      have n2 := notBeq n2
      have n3 := notBeq n3
      have n4 := notBeq n4
      rw [zeq_of w1, zeq_of w2, zeq_of w3, zeq_of w4, zeq_of w5, zeq_of w6] at hc1
      rw [zeq_of w7, zeq_of w8, zeq_of w9, zeq_of w10, zeq_of w11, zeq_of w12, zeq_of w13, zeq_of w14, zeq_of w15] at hc2
      have B1 : zB ρ h _ := B.2.2.2 _ (zget_mem hc1)
      have B2 : zB ρ h _ := B.2.2.2 _ (zget_mem hc2)
      have r1 : ∀ i : Int, 0 ≤ i → i < zv ρ t → 0 ≤ gz h (zv ρ H) i ∧ gz h (zv ρ H) i < zv ρ N := fun i i0 i1 => by
        let β : Nat → Int := fun u => if u = b0 then i else if u = b1 then gz h (zv ρ H) i else ρ u
        have hβ : ∀ u, zmem u [b0, b1] = false → β u = ρ u := fun u hu => by
          obtain ⟨z1, z⟩ := zmem_ne hu
          obtain ⟨z2, z⟩ := zmem_ne z
          show (if u = b0 then i else if u = b1 then gz h (zv ρ H) i else ρ u) = ρ u
          rw [if_neg z1, if_neg z2]
        have hβ5 : ∀ u, zmem u [b0, b1, a0, a1, a2] = false → β u = ρ u := fun u hu => by
          obtain ⟨z1, z⟩ := zmem_ne hu
          obtain ⟨z2, z⟩ := zmem_ne z
          show (if u = b0 then i else if u = b1 then gz h (zv ρ H) i else ρ u) = ρ u
          rw [if_neg z1, if_neg z2]
        have v0 : zv β (zx b0) = i := by rw [zx_v]; exact if_pos rfl
        have v1 : zv β (zx b1) = gz h (zv ρ H) i := by
          rw [zx_v]
          show (if b1 = b0 then i else if b1 = b1 then gz h (zv ρ H) i else ρ b1) = _
          rw [if_neg (fun z => n1 z.symm), if_pos rfl]
        have vH := ev H (by simp) β hβ5
        have vt := ev t (by simp) β hβ5
        have vN := ev N (by simp) β hβ5
        have c := B1 β hβ (fun x hx => by
          rw [List.mem_singleton.mp hx]
          refine ⟨?_, ?_⟩
          · show inZ m1 (zv β H) (zv β (zx b0))
            rw [vH, v0]
            exact isDY_of q1 (by omega) i0 (by omega)
          · show gz h (zv β H) (zv β (zx b0)) = zv β (zx b1)
            rw [vH, v0, v1]) (allP2 (by rw [v0]; exact i0) (by rw [zpl_v, zsb_v, v0, vt]; omega))
        have c1 := c _ List.mem_cons_self
        have c2 := c _ (List.mem_cons_of_mem _ List.mem_cons_self)
        rw [v1] at c1
        rw [zpl_v, zsb_v, v1, vN] at c2
        exact ⟨c1, by omega⟩
      have r2 : ∀ i : Int, 0 ≤ i → i < zv ρ t → gz h (zv ρ S) (gz h (zv ρ H) i) = i := fun i i0 i1 => by
        obtain ⟨y0, y1⟩ := r1 i i0 i1
        let β : Nat → Int := fun u => if u = a0 then i else if u = a1 then gz h (zv ρ H) i else if u = a2 then gz h (zv ρ S) (gz h (zv ρ H) i) else ρ u
        have hβ : ∀ u, zmem u [a0, a1, a2] = false → β u = ρ u := fun u hu => by
          obtain ⟨z1, z⟩ := zmem_ne hu
          obtain ⟨z2, z⟩ := zmem_ne z
          obtain ⟨z3, z⟩ := zmem_ne z
          show (if u = a0 then i else if u = a1 then gz h (zv ρ H) i else if u = a2 then gz h (zv ρ S) (gz h (zv ρ H) i) else ρ u) = ρ u
          rw [if_neg z1, if_neg z2, if_neg z3]
        have hβ5 : ∀ u, zmem u [b0, b1, a0, a1, a2] = false → β u = ρ u := fun u hu => by
          obtain ⟨_, z⟩ := zmem_ne hu
          obtain ⟨_, z⟩ := zmem_ne z
          exact hβ u z
        have v0 : zv β (zx a0) = i := by rw [zx_v]; exact if_pos rfl
        have v1 : zv β (zx a1) = gz h (zv ρ H) i := by
          rw [zx_v]
          show (if a1 = a0 then i else if a1 = a1 then gz h (zv ρ H) i else if a1 = a2 then gz h (zv ρ S) (gz h (zv ρ H) i) else ρ a1) = _
          rw [if_neg (fun z => n2 z.symm), if_pos rfl]
        have v2 : zv β (zx a2) = gz h (zv ρ S) (gz h (zv ρ H) i) := by
          rw [zx_v]
          show (if a2 = a0 then i else if a2 = a1 then gz h (zv ρ H) i else if a2 = a2 then gz h (zv ρ S) (gz h (zv ρ H) i) else ρ a2) = _
          rw [if_neg (fun z => n3 z.symm), if_neg (fun z => n4 z.symm), if_pos rfl]
        have vH := ev H (by simp) β hβ5
        have vS := ev S (by simp) β hβ5
        have vt := ev t (by simp) β hβ5
        have c := B2 β hβ (allP2 (P := fun x => zE β h x) ⟨by
          show inZ m2 (zv β H) (zv β (zx a0))
          rw [vH, v0]
          exact isDY_of q2 (by omega) i0 (by omega), by
          show gz h (zv β H) (zv β (zx a0)) = zv β (zx a1)
          rw [vH, v0, v1]⟩ ⟨by
          show inZ m3 (zv β S) (zv β (zx a1))
          rw [vS, v1]
          exact isDY_of q3 (by omega) y0 (by omega), by
          show gz h (zv β S) (zv β (zx a1)) = zv β (zx a2)
          rw [vS, v1, v2]⟩) (allP2 (by rw [v0]; exact i0) (by rw [zpl_v, zsb_v, v0, vt]; omega))
        have c1 := c _ List.mem_cons_self
        have c2 := c _ (List.mem_cons_of_mem _ List.mem_cons_self)
        rw [zsb_v, v2, v0] at c1 c2
        omega
      refine B.fact ?_
      rw [zpl_v, zsb_v]
      have := php1 (N := (zv ρ N).toNat) (n := (zv ρ t).toNat) (v := (zv ρ v.2.1).toNat) (f := fun k => (gz h (zv ρ H) (k : Int)).toNat) (fun k hk => by
        have := r1 k (by omega) (by omega)
        show (gz h (zv ρ H) (k : Int)).toNat < _
        omega) (fun j k hj hk z => by
        have a := r1 j (by omega) (by omega)
        have b := r1 k (by omega) (by omega)
        have c := r2 j (by omega) (by omega)
        have d := r2 k (by omega) (by omega)
        replace z : (gz h (zv ρ H) (j : Int)).toNat = (gz h (zv ρ H) (k : Int)).toNat := z
        rw [show gz h (zv ρ H) (j : Int) = gz h (zv ρ H) (k : Int) by omega, d] at c
        omega) (by omega) (fun k hk z => by
        have a := r1 k (by omega) (by omega)
        have c := r2 k (by omega) (by omega)
        replace z : (gz h (zv ρ H) (k : Int)).toNat = (zv ρ v.2.1).toNat := z
        rw [show gz h (zv ρ H) (k : Int) = zv ρ v.2.1 by omega] at c
        omega)
      omega
    · cases e
  · cases e
def gh0 (G : ZG) (fr : Nat → Bool) (o : Nat) (K : ZK) (k : List Nat) : Option (ZK × List Nat) := match o with
  | 0 => gInst G K k
  | 1 => gName fr K k
  | 2 => gCong K k
  | 3 => gUnit K k
  | 4 => gFact K k
  | 5 => gKeep 0 K k
  | 6 => gKeep 1 K k
  | 7 => gKeep 2 K k
  | 8 => gKeep 3 K k
  | 9 => gAlt K k
  | 11 => gRw K k
  | 12 => gSz K k
  | 13 => gPg K k
  | _ => none
theorem gh0_of {G : ZG} {fr : Nat → Bool} {o : Nat} {ρ : Nat → Int} {h : MH} {K K' : ZK} {k k' : List Nat} (B : Kn G ρ h K) (e : gh0 G fr o K k = some (K', k')) : ∃ ρ', (∀ v, fr v = false → ρ' v = ρ v) ∧ Kn G ρ' h K' := by
  have triv : Kn G ρ h K' → ∃ ρ', (∀ v, fr v = false → ρ' v = ρ v) ∧ Kn G ρ' h K' := fun b => ⟨ρ, fun _ _ => rfl, b⟩
  match o, e with
  | 0, e => exact triv (gInst_of B e)
  | 1, e => exact gName_of B e
  | 2, e => exact triv (gCong_of B e)
  | 3, e => exact triv (gUnit_of B e)
  | 4, e => exact triv (gFact_of B e)
  | 5, e => exact triv (gKeep_of (w := 0) B e)
  | 6, e => exact triv (gKeep_of (w := 1) B e)
  | 7, e => exact triv (gKeep_of (w := 2) B e)
  | 8, e => exact triv (gKeep_of (w := 3) B e)
  | 9, e => exact triv (gAlt_of B e)
  | 10, e => cases e
  | 11, e => exact triv (gRw_of B e)
  | 12, e => exact triv (gSz_of B e)
  | 13, e => exact triv (gPg_of B e)
  | o + 14, e => cases e
/-- goals follow -/
def gpr (G : ZG) (lo : Nat) (gs : List ZT) : Nat → ZK → List Nat → Option (List Nat)
  | 0, _, _ => none
  | _ + 1, _, [] => none
  | n + 1, K, o :: k => match o with
    | 20 => (match rdCs gs.length k with
      | (cs, k) => bif zcerts K.1 cs gs then some k else none)
    | 21 => (match rdT k with
      | (t, k) => (match gpr G lo gs n (t :: K.1, K.2) k with
        | some k => gpr G lo gs n (zpl (zsm (-1) t) (-1) :: K.1, K.2) k
        | none => none))
    | 22 => (match rdC k with
      | (c, k) => bif zcert K.1 c (zc (-1)) then some k else none)
    | 23 => gNone K k
    | o => (match gh0 G (fun v => Nat.ble lo v && !(gs.any (zoc (Nat.beq v)))) o K k with
      | some (K, k) => gpr G lo gs n K k
      | none => none)
theorem zany_self {v : Nat} {k : Int} : ∀ {l : List (Nat × Int)}, (v, k) ∈ l → zanyV (Nat.beq v) l = true
  | [], h => absurd h List.not_mem_nil
  | q :: r, h => by
    unfold zanyV
    rcases List.mem_cons.mp h with e | e
    · rw [← e]
      show (Nat.beq v v || _) = true
      rw [Nat.beq_refl]
      rfl
    · rw [zany_self e, Bool.or_true]
theorem gpr_of {G : ZG} {lo : Nat} {gs : List ZT} {h : MH} : ∀ {n : Nat} {ρ : Nat → Int} {K : ZK} {k k' : List Nat}, Kn G ρ h K → gpr G lo gs n K k = some k' → ∀ g ∈ gs, 0 ≤ zv ρ g
  | 0, _, _, _, _, _, e => by cases e
  | _ + 1, _, _, [], _, _, e => by cases e
  | n + 1, ρ, K, o :: k, k', B, e => by
    unfold gpr at e
    split at e
    · split at e
      next cs k1 e1 =>
      cases e2 : zcerts K.1 cs gs with
      | false => rw [e2] at e; cases e
      | true => exact zcerts_of B.1 e2
    · split at e
      next t k1 e1 =>
      split at e
      · next k2 e2 =>
        by_cases q : 0 ≤ zv ρ t
        · exact gpr_of (B.fact q) e2
        · refine gpr_of (B.fact ?_) e
          rw [zpl_v, zsm_v]
          omega
      · cases e
    · split at e
      next c k1 e1 =>
      cases e2 : zcert K.1 c (zc (-1)) with
      | false => rw [e2] at e; cases e
      | true =>
        have := zcert_of B.1 e2
        rw [zc_v] at this
        exact absurd this (by decide)
    · exact (gNone_of B e).elim
    · split at e
      · next K1 k1 e1 =>
        obtain ⟨ρ', a, b⟩ := gh0_of B e1
        have r := gpr_of b e
        intro g hg
        have := r g hg
        rw [show zv ρ' g = zv ρ g from zv_cg fun q hq => a q.1 (by
          have w : (gs.any (zoc (Nat.beq q.1))) = true := List.any_eq_true.mpr ⟨g, hg, zany_self (k := q.2) hq⟩
          rw [w, Bool.and_eq_false_iff]
          exact Or.inr rfl)] at this
        exact this
      · cases e
/-- a clause is read -/
def rdR (k : List Nat) : ZR × List Nat := match k with
  | a :: b :: c :: d :: k => ((a, b, c, d), k)
  | _ => ((0, 0, 0, 0), [])
def rdEs : Nat → List Nat → List ZE × List Nat
  | 0, k => ([], k)
  | n + 1, k => match rdR k with
    | (m, k) => (match rdT k with
      | (r, k) => (match rdT k with
        | (i, k) => (match rdT k with
          | (y, k) => (match rdEs n k with
            | (l, k) => ((m, r, i, y) :: l, k)))))
def rdB (k : List Nat) : ZB × List Nat := match k with
  | a :: b :: c :: d :: k => (match rdNs a k with
    | (bs, k) => (match rdEs b k with
      | (es, k) => (match rdTs c k with
        | (gs, k) => (match rdTs d k with
          | (cs, k) => ((bs, es, gs, cs), k)))))
  | _ => (([], [], [], []), [])
def rdCl (tb : List Nat) (k : List Nat) : Option (ZC × List Nat) := match k with
  | 0 :: k => (match rdB k with
    | (b, k) => some ((0, b), k))
  | (n + 1) :: k => (match zget tb n with
    | some j => bif Nat.blt 0 j then some ((j, ([], [], [], [])), k) else none
    | none => none)
  | [] => none
/-- what a body says holds, told by the body, is what its clause says -/
theorem zCl_of {G : ZG} {ρ : Nat → Int} {h : MH} {c : ZC} {b : ZB} (e : zbody G c = some b) (cl : c.1 ≠ 0 → zocB (fun v => !(zmem v b.1)) b = false) (k : zB ρ h b) : zCl G ρ h c := by
  obtain ⟨m, b'⟩ := c
  match m, e, cl with
  | 0, e, cl => cases e; exact k
  | m + 1, e, cl =>
    replace e : G.1 (m + 1) = some b := e
    show zGl G (m + 1) h
    unfold zGl
    rw [e]
    intro ρ' β hb
    have o := cl (by omega)
    -- what the clause's own variables are not does not matter
    have k2 : zB β h b := zB_cg (f := fun v => !(zmem v b.1)) o (ρ := fun v => if zmem v b.1 = true then β v else ρ v) (fun v hv => by
      rw [if_pos (by cases w : zmem v b.1 with | true => rfl | false => rw [w] at hv; cases hv)]) (fun γ hγ => k γ fun v hv => by
        rw [hγ v hv]
        show (if zmem v b.1 = true then β v else ρ v) = ρ v
        rw [if_neg (by rw [hv]; decide)])
    exact k2 β fun v hv => rfl
def zatE (es : List ZE) : List ZA := es.map fun e => e.2
/-- a clause is added -/
def gAdd (G : ZG) (tb : List Nat) (lo n : Nat) (K : ZK) (k : List Nat) : Option (ZK × List Nat) := match rdCl tb k with
  | some (c, k) => (match zbody G c with
    | some b => bif !(zocK (fun v => zmem v b.1) K) && (Nat.beq c.1 0 || !(zocB (fun v => !(zmem v b.1)) b)) then (match gpr G lo b.2.2.2 n (b.2.2.1 ++ K.1, K.2.1, zatE b.2.1 ++ K.2.2.1, K.2.2.2) k with
      | some k => some ((K.1, K.2.1, K.2.2.1, c :: K.2.2.2), k)
      | none => none) else none
    | none => none)
  | none => none
theorem gAdd_of {G : ZG} {tb : List Nat} {lo n : Nat} {ρ : Nat → Int} {h : MH} {K K' : ZK} {k k' : List Nat} (B : Kn G ρ h K) (e : gAdd G tb lo n K k = some (K', k')) : Kn G ρ h K' := by
  unfold gAdd at e
  split at e
  · next c k1 e1 =>
    split at e
    · next b hb =>
      cases e2 : (!(zocK (fun v => zmem v b.1) K) && (Nat.beq c.1 0 || !(zocB (fun v => !(zmem v b.1)) b))) with
      | false => rw [e2] at e; cases e
      | true =>
        rw [e2] at e
        replace e : (match gpr G lo b.2.2.2 n (b.2.2.1 ++ K.1, K.2.1, zatE b.2.1 ++ K.2.2.1, K.2.2.2) k1 with
          | some k => some ((K.1, K.2.1, K.2.2.1, c :: K.2.2.2), k)
          | none => none) = some (K', k') := e
        obtain ⟨h1, h2⟩ := andB e2
        split at e
        · next k2 e3 =>
          cases e
          refine B.cl (zCl_of hb (fun hn => ?_) ?_)
          · rw [Bool.or_eq_true] at h2
            rcases h2 with z | z
            · exact absurd (beqN z) hn
            · exact notB z
          · intro β hβ he hg
            have B2 : Kn G β h K := B.cg (notB h1) hβ
            refine gpr_of (h := h) ?_ e3
            refine ⟨fun f hf => (List.mem_append.mp hf).elim (hg f) (B2.1 f), B2.2.1, fun a ha => ?_, B2.2.2.2⟩
            rcases List.mem_append.mp ha with z | z
            · obtain ⟨x, m, rfl⟩ := List.mem_map.mp z
              exact (he x m).2
            · exact B2.2.2.1 a z
        · cases e
    · cases e
  · cases e
theorem zmemI {v : Nat} : ∀ {l : List Nat}, zmem v l = true → v ∈ l
  | [], h => by cases h
  | n :: r, h => by
    have : (Nat.beq n v || zmem v r) = true := h
    rw [Bool.or_eq_true] at this
    rcases this with e | e
    · rw [beqN e]; exact List.mem_cons_self
    · exact List.mem_cons_of_mem _ (zmemI e)
/-- what a clause says of all that is smaller: its own numbers get other names -/
def zih (b : ZB) (ns : List Nat) (mt : ZT) : ZB := (ns, b.2.1.map (fun e => (e.1, zS (zzip b.1 (ns.map zx)) e.2.1, zS (zzip b.1 (ns.map zx)) e.2.2.1, zS (zzip b.1 (ns.map zx)) e.2.2.2)), zpl (zsb mt (zS (zzip b.1 (ns.map zx)) mt)) (-1) :: b.2.2.1.map (zS (zzip b.1 (ns.map zx))), b.2.2.2.map (zS (zzip b.1 (ns.map zx))))
/-- a clause is added; in its proof it may be used of what is smaller, by one of its bounds -/
def gAddI (G : ZG) (tb : List Nat) (lo n : Nat) (K : ZK) (k : List Nat) : Option (ZK × List Nat) := match rdCl tb k with
  | some (c, m :: k) => (match zbody G c with
    | some b => (match zget b.2.2.1 m with
      | some mt => (match rdNs b.1.length k with
        | (ns, k) => bif !(zocK (fun v => zmem v b.1) K) && ((Nat.beq c.1 0 || !(zocB (fun v => !(zmem v b.1)) b)) && (ns.all (fun v => !(zmem v b.1)) && !(zocB (fun v => zmem v ns) b))) then (match gpr G lo b.2.2.2 n (b.2.2.1 ++ K.1, K.2.1, zatE b.2.1 ++ K.2.2.1, (0, zih b ns mt) :: K.2.2.2) k with
          | some k => some ((K.1, K.2.1, K.2.2.1, c :: K.2.2.2), k)
          | none => none) else none)
      | none => none)
    | none => none)
  | _ => none
theorem gAddI_of {G : ZG} {tb : List Nat} {lo n : Nat} {ρ : Nat → Int} {h : MH} {K K' : ZK} {k k' : List Nat} (B : Kn G ρ h K) (e : gAddI G tb lo n K k = some (K', k')) : Kn G ρ h K' := by
  unfold gAddI at e
  split at e
  · next c m k1 e1 =>
    split at e
    · next b hb =>
      split at e
      · next mt hm =>
        split at e
        next ns k2 e2 =>
        cases e3 : (!(zocK (fun v => zmem v b.1) K) && ((Nat.beq c.1 0 || !(zocB (fun v => !(zmem v b.1)) b)) && (ns.all (fun v => !(zmem v b.1)) && !(zocB (fun v => zmem v ns) b)))) with
        | false => rw [e3] at e; cases e
        | true =>
          rw [e3, cond_true] at e
          obtain ⟨h1, h2⟩ := andB e3
          obtain ⟨h2, h3⟩ := andB h2
          obtain ⟨h3, h4⟩ := andB h3
          have h3 := List.all_eq_true.mp h3
          have h4 := notB h4
          obtain ⟨o1, o2⟩ := orF h4
          obtain ⟨o2, o3⟩ := orF o2
          split at e
          · next k3 e4 =>
            cases e
            refine B.cl (zCl_of hb (fun hn => ?_) ?_)
            · rw [Bool.or_eq_true] at h2
              rcases h2 with z | z
              · exact absurd (beqN z) hn
              · exact notB z
            · have nin : ∀ v, (zmem v ns && !(zmem v b.1)) = false → zmem v ns = false := fun v hv => by
                cases z : zmem v ns with
                | false => rfl
                | true => rw [z, h3 v (zmemI z)] at hv; cases hv
              have key : ∀ N : Nat, ∀ β : Nat → Int, (∀ v, zmem v b.1 = false → β v = ρ v) → (∀ e ∈ b.2.1, zE β h e) → (∀ g ∈ b.2.2.1, 0 ≤ zv β g) → (zv β mt).toNat < N → ∀ c ∈ b.2.2.2, 0 ≤ zv β c := by
                intro N
                induction N with
                | zero => intro β _ _ _ hN; exact absurd hN (Nat.not_lt_zero _)
                | succ N ih =>
                  intro β hβ he hg hN
                  have B2 : Kn G β h K := B.cg (notB h1) hβ
                  have I : zB β h (zih b ns mt) := by
                    intro β' hβ' he' hg' c hc
                    obtain ⟨c0, mc, rfl⟩ := List.mem_map.mp hc
                    let γ : Nat → Int := fun v => if zmem v ns = true then ρ v else zσ (zzip b.1 (ns.map zx)) β' v
                    have tv : ∀ t, zoc (fun v => zmem v ns && !(zmem v b.1)) t = false → zv γ t = zv β' (zS (zzip b.1 (ns.map zx)) t) := fun t ht => by
                      rw [zS_v]
                      exact zoc_no ht fun v hv => if_neg (by rw [nin v hv]; decide)
                    have tb' : ∀ t, zoc (fun v => zmem v ns && !(zmem v b.1)) t = false → zv β' t = zv β t := fun t ht => zoc_no ht fun v hv => hβ' v (nin v hv)
                    have hγ : ∀ v, zmem v b.1 = false → γ v = ρ v := fun v hv => by
                      show (if zmem v ns = true then ρ v else zσ (zzip b.1 (ns.map zx)) β' v) = ρ v
                      cases z : zmem v ns with
                      | true => exact if_pos rfl
                      | false =>
                        rw [if_neg (by decide), zσ_zip hv, hβ' v z]
                        exact hβ v hv
                    have gg : ∀ g ∈ b.2.2.1, 0 ≤ zv γ g := fun g mg => by
                      rw [tv g (anyF o2 g mg)]
                      exact hg' _ (List.mem_cons_of_mem _ (List.mem_map.mpr ⟨g, mg, rfl⟩))
                    have mm := zget_mem hm
                    have m1 := hg' _ List.mem_cons_self
                    rw [zpl_v, zsb_v, tb' mt (anyF o2 mt mm), ← tv mt (anyF o2 mt mm)] at m1
                    have m2 := gg mt mm
                    rw [← tv c0 (anyF o3 c0 mc)]
                    refine ih γ hγ (fun x mx => ?_) gg (by omega) c0 mc
                    have w := he' _ (List.mem_map.mpr ⟨x, mx, rfl⟩)
                    obtain ⟨p1, p2⟩ := orF (anyF o1 x mx)
                    obtain ⟨p2, p3⟩ := orF p2
                    unfold zE at w ⊢
                    rw [tv _ p1, tv _ p2, tv _ p3]
                    exact w
                  refine gpr_of (h := h) ?_ e4
                  refine ⟨fun f hf => (List.mem_append.mp hf).elim (hg f) (B2.1 f), B2.2.1, fun a ha => ?_, List.forall_mem_cons.mpr ⟨I, B2.2.2.2⟩⟩
                  rcases List.mem_append.mp ha with z | z
                  · obtain ⟨x, m, rfl⟩ := List.mem_map.mp z
                    exact (he x m).2
                  · exact B2.2.2.1 a z
              exact fun β hβ he hg => key ((zv β mt).toNat + 1) β hβ he hg (Nat.lt_succ_self _)
          · cases e
      · cases e
    · cases e
  · cases e
