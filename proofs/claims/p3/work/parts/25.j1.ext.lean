/-! more instructions: blocks of elements written at once, division by what isn't 0, doubles -/
def hblk (h : MH) (a : Nat) (F : Nat → Int) : MH := (h.1, fun b => if b = a then ((h.2 a).1, (h.2 a).2.1, F) else h.2 b)
theorem hblk_same (h : MH) (a : Nat) (F : Nat → Int) (c : Nat) : ((hblk h a F).2 c).1 = (h.2 c).1 ∧ ((hblk h a F).2 c).2.1 = (h.2 c).2.1 := by
  show ((if c = a then _ else _ : MC)).1 = _ ∧ ((if c = a then _ else _ : MC)).2.1 = _
  by_cases e : c = a
  · rw [if_pos e, e]; exact ⟨rfl, rfl⟩
  · rw [if_neg e]; exact ⟨rfl, rfl⟩
theorem gz_fill {h : MH} {r a b v : Int} (r0 : 0 ≤ r) (a0 : 0 ≤ a) (bK : b ≤ 1099511627776) (r' i' : Int) : gz (hfill h r.toNat a.toNat b.toNat v) r' i' = if r' = r ∧ (a ≤ i' ∧ i' < b) then v else gz h r' i' := by
  by_cases q : 0 ≤ r' ∧ 0 ≤ i'
  · by_cases k : i' < 1099511627776
    · rw [gz_at q.1 q.2 k, gz_at q.1 q.2 k]
      unfold hfill
      show ((if r'.toNat = r.toNat then _ else _ : MC)).2.2 i'.toNat = _
      by_cases e : r' = r
      · rw [if_pos (by rw [e])]
        show (if a.toNat ≤ i'.toNat ∧ i'.toNat < b.toNat then v else (h.2 r.toNat).2.2 i'.toNat) = _
        by_cases e2 : a ≤ i' ∧ i' < b
        · rw [if_pos (by omega), if_pos ⟨e, e2⟩]
        · rw [if_neg (by omega), if_neg (fun z => e2 z.2), e]
      · rw [if_neg (by omega), if_neg (fun z => e z.1)]
    · rw [if_neg fun z => k (by omega)]
      exact gz_hi (h := h) (h2 := hfill h r.toNat a.toNat b.toNat v) rfl (fun c => hblk_same h r.toNat (fun q => if a.toNat ≤ q ∧ q < b.toNat then v else (h.2 r.toNat).2.2 q) c) k
  · rw [gz_neg q, if_neg (fun z => q ⟨by omega, by omega⟩), gz_neg q]
theorem gz_copy {h : MH} {s r sp dp n : Int} (s0 : 0 ≤ s) (r0 : 0 ≤ r) (p0 : 0 ≤ sp) (d0 : 0 ≤ dp) (n0 : 0 ≤ n) (dK : dp + n ≤ 1099511627776) (sK : sp + n ≤ 1099511627776) (r' i' : Int) : gz (hcopy h s.toNat r.toNat sp.toNat dp.toNat n.toNat) r' i' = if r' = r ∧ (dp ≤ i' ∧ i' < dp + n) then gz h s (i' + (sp - dp)) else gz h r' i' := by
  by_cases q : 0 ≤ r' ∧ 0 ≤ i'
  · by_cases k : i' < 1099511627776
    · rw [gz_at q.1 q.2 k]
      unfold hcopy
      show ((if r'.toNat = r.toNat then _ else _ : MC)).2.2 i'.toNat = _
      by_cases e : r' = r
      · rw [if_pos (by rw [e])]
        show (if dp.toNat ≤ i'.toNat ∧ i'.toNat < dp.toNat + n.toNat then (h.2 s.toNat).2.2 (sp.toNat + (i'.toNat - dp.toNat)) else (h.2 r.toNat).2.2 i'.toNat) = _
        by_cases e2 : dp ≤ i' ∧ i' < dp + n
        · rw [if_pos (by omega), if_pos ⟨e, e2⟩, gz_at s0 (by omega) (by omega)]
          exact congrArg (h.2 s.toNat).2.2 (by omega)
        · rw [if_neg (by omega), if_neg (fun z => e2 z.2), e, gz_at r0 q.2 k]
      · rw [if_neg (by omega), if_neg (fun z => e z.1), gz_at q.1 q.2 k]
    · rw [if_neg fun z => k (by omega)]
      exact gz_hi (h := h) (h2 := hcopy h s.toNat r.toNat sp.toNat dp.toNat n.toNat) rfl (fun c => hblk_same h r.toNat (fun q => if dp.toNat ≤ q ∧ q < dp.toNat + n.toNat then (h.2 s.toNat).2.2 (sp.toNat + (q - dp.toNat)) else (h.2 r.toNat).2.2 q) c) k
  · rw [gz_neg q, if_neg (fun z => q ⟨by omega, by omega⟩), gz_neg q]
theorem StrZ.blk {T : ZTab} {h : MH} (g : StrZ T h) {a : Nat} {F : Nat → Int} (n : ∀ j, T.2.2.2.1 a j = 0 ∧ ¬ j < (T.2.2.2.2 a).2) : StrZ T (hblk h a F) := by
  have at' : ∀ c j, c ≠ a → ((hblk h a F).2 c).2.2 j = (h.2 c).2.2 j := fun c j z => by
    show ((if c = a then _ else _ : MC)).2.2 j = _
    rw [if_neg z]
  refine ⟨⟨g.1.1, fun c c1 c2 => ?_⟩, fun c j q => ?_, fun c j q => ?_⟩
  · rw [(hblk_same h a F c).1, (hblk_same h a F c).2]
    exact g.1.2 c c1 c2
  · rw [at' c j fun z => q (by rw [z]; exact (n j).1)]
    exact g.2.1 c j q
  · rw [at' c j fun z => (n j).2 (by rw [z] at q; exact q)]
    exact g.2.2 c j q
/-- elements a .. b - 1 of r are told by f -/
def BlkW (h h2 : MH) (r a b : Int) (f : Int → Int) : Prop := ∀ r' i', gz h2 r' i' = if r' = r ∧ (a ≤ i' ∧ i' < b) then f i' else gz h r' i'
theorem Frm.blk {M : List ZR} {h : MH} {c : Nat} {F : Nat → Int} {r a b : Int} {f : Int → Int} (w : BlkW h (hblk h c F) r a b f) {m : ZR} (hm : m ∈ M) (k : ∀ i, a ≤ i → i < b → inZ m r i) : Frm M h (hblk h c F) :=
  ⟨Nat.le_refl _, fun d _ => hblk_same h c F d, fun r' i' n => by rw [w, if_neg fun z => n m hm (by rw [z.1]; exact k i' z.2.1 z.2.2)]⟩
def onF (md : Nat) (t1 : ZT) (e : ZE) : List ZT := match md with
  | 0 => [zsb e.2.2.2 t1, zsb t1 e.2.2.2]
  | 1 => []
  | _ => [zsb e.2.2.2 (zadd e.2.2.1 t1), zsb (zadd e.2.2.1 t1) e.2.2.2]
def onA (md : Nat) (t1 t2 : ZT) (e : ZE) : List ZA := match md with
  | 1 => [(t1, zadd e.2.2.1 t2, e.2.2.2)]
  | _ => []
/-- what is written: a number, what lies elsewhere, or the place and a number -/
def fB (md : Nat) (h : MH) (β : Nat → Int) (t1 t2 : ZT) (i : Int) : Int := match md with
  | 0 => zv β t1
  | 1 => gz h (zv β t1) (i + zv β t2)
  | _ => i + zv β t1
def wrE2 (G : ZG) (lo n md : Nat) (w : ZR) (r a b t1 t2 : ZT) (gs cs : List ZT) : List ZE → Bool → ZK → List Nat → Option (List Nat)
  | [], al, K, k => bif al then gpr G lo cs n (gs ++ K.1, K.2) k else some k
  | e :: es, al, K, k => bif zdis e.1 w then wrE2 G lo n md w r a b t1 t2 gs cs es al (K.1, K.2.1, e.2 :: K.2.2.1, K.2.2.2) k else
    match wrE2 G lo n md w r a b t1 t2 gs cs es true (zsb e.2.1 r :: zsb r e.2.1 :: zsb e.2.2.1 a :: zpl (zsb b e.2.2.1) (-1) :: (onF md t1 e ++ K.1), K.2.1, onA md t1 t2 e ++ K.2.2.1, K.2.2.2) k with
    | some k => wrE2 G lo n md w r a b t1 t2 gs cs es al (K.1, K.2.1, e.2 :: K.2.2.1, K.2.2.2) k
    | none => none
section BW
variable {G : ZG} {lo n md : Nat} {w : ZR} {r a b t1 t2 : ZT} {gs cs : List ZT} {β : Nat → Int} {h h2 : MH}
theorem wrE2_of (hw : BlkW h h2 (zv β r) (zv β a) (zv β b) (fB md h β t1 t2)) (iw : ∀ i, zv β a ≤ i → i < zv β b → inZ w (zv β r) i) (hg : ∀ g ∈ gs, 0 ≤ zv β g) : ∀ {es : List ZE} {al : Bool} {K : ZK} {k k' : List Nat}, Kn G β h K → wrE2 G lo n md w r a b t1 t2 gs cs es al K k = some k' → (∀ e ∈ es, zE β h2 e) → (∀ c ∈ cs, 0 ≤ zv β c) ∨ (al = false ∧ ∀ e ∈ es, zE β h e)
  | [], al, K, k, k', B, e, hh => by
    cases al with
    | false => exact Or.inr ⟨rfl, fun e he => absurd he List.not_mem_nil⟩
    | true => exact Or.inl (gpr_of (B.facts hg) e)
  | x :: es, al, K, k, k', B, e, hh => by
    have hx := hh x List.mem_cons_self
    have ht : ∀ e ∈ es, zE β h2 e := fun y hy => hh y (List.mem_cons_of_mem _ hy)
    have off : ∀ {k1 : List Nat}, ¬ (zv β x.2.1 = zv β r ∧ (zv β a ≤ zv β x.2.2.1 ∧ zv β x.2.2.1 < zv β b)) → wrE2 G lo n md w r a b t1 t2 gs cs es al (K.1, K.2.1, x.2 :: K.2.2.1, K.2.2.2) k1 = some k' → (∀ c ∈ cs, 0 ≤ zv β c) ∨ (al = false ∧ ∀ e ∈ x :: es, zE β h e) := fun {k1} ne e => by
      have q := hx.2
      rw [hw, if_neg ne] at q
      rcases wrE2_of hw iw hg (B.atom q) e ht with z | z
      · exact Or.inl z
      · exact Or.inr ⟨z.1, List.forall_mem_cons.mpr ⟨⟨hx.1, q⟩, z.2⟩⟩
    unfold wrE2 at e
    cases e1 : zdis x.1 w with
    | true =>
      rw [e1] at e
      exact off (fun z => zdis_of e1 hx.1 (by rw [z.1]; exact iw _ z.2.1 z.2.2)) e
    | false =>
      rw [e1] at e
      replace e : (match wrE2 G lo n md w r a b t1 t2 gs cs es true (zsb x.2.1 r :: zsb r x.2.1 :: zsb x.2.2.1 a :: zpl (zsb b x.2.2.1) (-1) :: (onF md t1 x ++ K.1), K.2.1, onA md t1 t2 x ++ K.2.2.1, K.2.2.2) k with
        | some k => wrE2 G lo n md w r a b t1 t2 gs cs es al (K.1, K.2.1, x.2 :: K.2.2.1, K.2.2.2) k
        | none => none) = some k' := e
      split at e
      · next k1 e2 =>
        by_cases q : zv β x.2.1 = zv β r ∧ (zv β a ≤ zv β x.2.2.1 ∧ zv β x.2.2.1 < zv β b)
        · have q3 := hx.2
          rw [hw, if_pos q] at q3
          have B1 : Kn G β h (onF md t1 x ++ K.1, K.2.1, onA md t1 t2 x ++ K.2.2.1, K.2.2.2) := by
            match md, q3 with
            | 0, q3 =>
              have q3 : zv β t1 = zv β x.2.2.2 := q3
              exact B.facts (all2 (by rw [zsb_v]; omega) (by rw [zsb_v]; omega))
            | 1, q3 =>
              have q3 : gz h (zv β t1) (zv β x.2.2.1 + zv β t2) = zv β x.2.2.2 := q3
              exact B.atom (a := (t1, zadd x.2.2.1 t2, x.2.2.2)) (by unfold zA; rw [zadd_v]; exact q3)
            | md + 2, q3 =>
              have q3 : zv β x.2.2.1 + zv β t1 = zv β x.2.2.2 := q3
              exact B.facts (all2 (by rw [zsb_v, zadd_v]; omega) (by rw [zsb_v, zadd_v]; omega))
          have B2 := (((B1.fact (g := zpl (zsb b x.2.2.1) (-1)) (by rw [zpl_v, zsb_v]; omega)).fact (g := zsb x.2.2.1 a) (by rw [zsb_v]; omega)).fact (g := zsb r x.2.1) (by rw [zsb_v]; omega)).fact (g := zsb x.2.1 r) (by rw [zsb_v]; omega)
          rcases wrE2_of hw iw hg B2 e2 ht with z | z
          · exact Or.inl z
          · cases z.1
        · exact off q e
      · cases e
end BW
def wrV2 (G : ZG) (T : ZTab) (lo n md : Nat) (K : ZK) (w : ZR) (r a b t1 t2 : ZT) : List ZC → List Nat → Option (List ZC × List Nat)
  | [], k => some ([], k)
  | c :: l, k => bif zkpC G [w] T.1 c then (match wrV2 G T lo n md K w r a b t1 t2 l k with
      | some (l, k) => some (c :: l, k)
      | none => none) else match k with
    | 0 :: k => wrV2 G T lo n md K w r a b t1 t2 l k
    | 1 :: k => (match zbody G c with
      | some q => bif !(zocK (fun u => zmem u q.1) K) && ([r, a, b, t1, t2].all (fun t => !(zoc (fun u => zmem u q.1) t)) && (Nat.beq c.1 0 || !(zocB (fun u => !(zmem u q.1)) q))) then (match wrE2 G lo n md w r a b t1 t2 q.2.2.1 q.2.2.2 q.2.1 false K k with
        | some k => (match wrV2 G T lo n md K w r a b t1 t2 l k with
          | some (l, k) => some (c :: l, k)
          | none => none)
        | none => none) else none
      | none => none)
    | _ => none
theorem fB_cg {md : Nat} {h : MH} {β ρ : Nat → Int} {t1 t2 : ZT} (e1 : zv β t1 = zv ρ t1) (e2 : zv β t2 = zv ρ t2) : fB md h β t1 t2 = fB md h ρ t1 t2 := by
  funext i
  match md with
  | 0 => exact e1
  | 1 => show gz h (zv β t1) (i + zv β t2) = gz h (zv ρ t1) (i + zv ρ t2); rw [e1, e2]
  | md + 2 => show i + zv β t1 = i + zv ρ t1; rw [e1]
theorem wrV2_of {G : ZG} (gk : GOk G) {T : ZTab} {lo n md : Nat} {K : ZK} {w : ZR} {r a b t1 t2 : ZT} {ρ : Nat → Int} {h h2 : MH} (B : Kn G ρ h K) (g : StrZ T h) (hw : BlkW h h2 (zv ρ r) (zv ρ a) (zv ρ b) (fB md h ρ t1 t2)) (iw : ∀ i, zv ρ a ≤ i → i < zv ρ b → inZ w (zv ρ r) i) (F : Frm [w] h h2) : ∀ {l l' : List ZC} {k k' : List Nat}, (∀ c ∈ l, zCl G ρ h c) → wrV2 G T lo n md K w r a b t1 t2 l k = some (l', k') → ∀ c ∈ l', zCl G ρ h2 c
  | [], l', k, k', _, e, c, hc => by cases e; exact absurd hc List.not_mem_nil
  | d :: l, l', k, k', Bl, e, c, hc => by
    have Bt : ∀ c ∈ l, zCl G ρ h c := fun x hx => Bl x (List.mem_cons_of_mem _ hx)
    have fin : zCl G ρ h2 d → ∀ {k1 : List Nat}, (match wrV2 G T lo n md K w r a b t1 t2 l k1 with
        | some (l, k) => some (d :: l, k)
        | none => none) = some (l', k') → zCl G ρ h2 c := fun hd {k1} e => by
      split at e
      · next l1 k2 e1 =>
        cases e
        rcases List.mem_cons.mp hc with z | z
        · exact z ▸ hd
        · exact wrV2_of gk B g hw iw F Bt e1 c z
      · cases e
    unfold wrV2 at e
    cases e1 : zkpC G [w] T.1 d with
    | true =>
      rw [e1] at e
      exact fin (zCl_kp gk F g.1.1 e1 (Bl d List.mem_cons_self)) e
    | false =>
      rw [e1, cond_false] at e
      split at e
      · exact wrV2_of gk B g hw iw F Bt e c hc
      · next k1 =>
        split at e
        · next q hq =>
          cases e2 : (!(zocK (fun u => zmem u q.1) K) && ([r, a, b, t1, t2].all (fun t => !(zoc (fun u => zmem u q.1) t)) && (Nat.beq d.1 0 || !(zocB (fun u => !(zmem u q.1)) q)))) with
          | false => rw [e2] at e; cases e
          | true =>
            rw [e2, cond_true] at e
            obtain ⟨h1, h2'⟩ := andB e2
            obtain ⟨h3, h5⟩ := andB h2'
            have h3 := List.all_eq_true.mp h3
            split at e
            · next k2 e3 =>
              refine fin (zCl_of hq (fun hn => ?_) ?_) e
              · rw [Bool.or_eq_true] at h5
                rcases h5 with z | z
                · exact absurd (beqN z) hn
                · exact notB z
              · intro β hβ he hg
                have ev : ∀ t ∈ [r, a, b, t1, t2], zv β t = zv ρ t := fun t ht => zoc_no (notB (h3 t ht)) hβ
                have er := ev r (by simp)
                have ea := ev a (by simp)
                have eb := ev b (by simp)
                have f1 := ev t1 (by simp)
                have f2 := ev t2 (by simp)
                rcases wrE2_of (β := β) (h := h) (h2 := h2) (r := r) (a := a) (b := b) (t1 := t1) (t2 := t2) (md := md) (by rw [er, ea, eb, fB_cg f1 f2]; exact hw) (by rw [er, ea, eb]; exact iw) hg (B.cg (notB h1) hβ) e3 he with z | z
                · exact z
                · exact zbody_of hq (Bl d List.mem_cons_self) β hβ z.2 hg
            · cases e
        · cases e
      · cases e
def zhi (t : ZT) : Bool := zleq t.2 [] && zIn (t.1 - 1099511627776)
def zout (c1 c2 : Nat) (t : ZT) : Bool := zleq t.2 [] && (zIn (Int.ofNat c1 - 1 - t.1) || (!(Nat.beq c2 0) && zIn (t.1 - 1 - Int.ofNat c2)))
def wrA2 (F : List ZT) (c1 c2 : Nat) (r : ZT) (A : List ZA) : List ZA := A.filter fun a => znz (zsb a.1 r) || (zhi a.2.1 || (zout c1 c2 a.1 || (Nat.blt 0 c2 && (Nat.blt c2 2628 && F.any fun f => zeq f (zpl a.1 (-2628))))))
theorem wrA2_of {F : List ZT} {r a b : ZT} {ρ : Nat → Int} {h h2 : MH} {f : Int → Int} (hw : BlkW h h2 (zv ρ r) (zv ρ a) (zv ρ b) f) (bK : zv ρ b ≤ 1099511627776) {c1 c2 : Nat} (e1 : (c1 : Int) ≤ zv ρ r) (e2 : c2 = 0 ∨ zv ρ r ≤ (c2 : Int)) {A : List ZA} (B : ∀ x ∈ A, zA ρ h x) (hF : ∀ f ∈ F, 0 ≤ zv ρ f) : ∀ x ∈ wrA2 F c1 c2 r A, zA ρ h2 x := fun x hx => by
  obtain ⟨m1, m2⟩ := List.mem_filter.mp hx
  unfold zA
  rw [Bool.or_eq_true] at m2
  rcases m2 with m2 | m2
  · have q := znz_of m2 ρ
    rw [zsb_v] at q
    rw [hw, if_neg fun z => q (by omega)]
    exact B x m1
  · rw [Bool.or_eq_true] at m2
    rcases m2 with m2 | m2
    · obtain ⟨q1, q2⟩ := andB m2
      have q2 := zIn_of q2
      have q3 : zv ρ x.2.1 = x.2.1.1 := by
        unfold zv
        rw [zleq_of q1]
        exact Int.add_zero _
      rw [hw, if_neg fun z => by omega]
      exact B x m1
    · rw [Bool.or_eq_true] at m2
      rcases m2 with m2 | m2
      · obtain ⟨q1, q2⟩ := andB m2
        have q3 : zv ρ x.1 = x.1.1 := by
          unfold zv
          rw [zleq_of q1]
          exact Int.add_zero _
        have ne : zv ρ x.1 ≠ zv ρ r := by
          rw [Bool.or_eq_true] at q2
          rcases q2 with q2 | q2
          · have q2 := zIn_of q2
            have : Int.ofNat c1 = (c1 : Int) := rfl
            omega
          · obtain ⟨q4, q5⟩ := andB q2
            have q4 := beqN_no (notB q4)
            have q5 := zIn_of q5
            have : Int.ofNat c2 = (c2 : Int) := rfl
            omega
        rw [hw, if_neg fun z => ne z.1]
        exact B x m1
      · obtain ⟨q1, q2⟩ := andB m2
        obtain ⟨q2, q3⟩ := andB q2
        have q1 := bltN q1
        have q2 := bltN q2
        obtain ⟨f, hf, q4⟩ := List.any_eq_true.mp q3
        have q5 := hF f hf
        rw [zeq_of q4, zpl_v] at q5
        rw [hw, if_neg fun z => by omega]
        exact B x m1
/-- a block of elements of r is written; perhaps (a fill) it is told that all are so -/
def xBlk (G : ZG) (T : ZTab) (M : List ZR) (lo n md : Nat) (s : ZSt) (c1 c2 : Nat) (r a b t1 t2 : ZT) (rest : ZSs) (k : List Nat) : Option (ZSt × List Nat) := match k with
  | m :: k => (match zget M m with
    | some q => bif zsubR (c1, c2, 0, 1099511627775) q then (match wrV2 G T lo n md s.2.2 (c1, c2, 0, 1099511627775) r a b t1 t2 s.2.2.2.2.2 k with
        | some (V, k) => (match k with
          | 0 :: k => some ((s.1, rest, (s.2.2.1, s.2.2.2.1, wrA2 s.2.2.1 c1 c2 r s.2.2.2.2.1, V)), k)
          | 1 :: b1 :: b2 :: k => bif Nat.beq md 0 && ([r, a, b, t1].all (fun t => !(zoc (fun u => zmem u [b1, b2]) t)) && !(Nat.beq b1 b2)) then some ((s.1, rest, (s.2.2.1, s.2.2.2.1, wrA2 s.2.2.1 c1 c2 r s.2.2.2.2.1, (0, [b1, b2], [((c1, c2, 0, 1099511627775), r, zx b1, zx b2)], [zsb (zx b1) a, zpl (zsb b (zx b1)) (-1)], [zsb (zx b2) t1, zsb t1 (zx b2)]) :: V)), k) else none
          | 2 :: m1 :: m2 :: k => (match zget s.2.2.2.2.1 m1, zget s.2.2.2.2.1 m2 with
            | some p, some q => (match rdCs 4 k with
              | (cs, k) => bif Nat.beq md 1 && (zeq p.1 t1 && (zeq q.1 t1 && zcerts s.2.2.1 cs [zsb (zsb p.2.1 t2) a, zpl (zsb b (zsb p.2.1 t2)) (-1), zsb (zsb q.2.1 t2) a, zpl (zsb b (zsb q.2.1 t2)) (-1)])) then some ((s.1, rest, (s.2.2.1, s.2.2.2.1, (r, zsb p.2.1 t2, p.2.2) :: (r, zsb q.2.1 t2, q.2.2) :: wrA2 s.2.2.1 c1 c2 r s.2.2.2.2.1, V)), k) else none)
            | _, _ => none)
          | _ => none)
        | none => none) else none
    | none => none)
  | [] => none
theorem xBlk_of {G : ZG} (gk : GOk G) {T : ZTab} {M : List ZR} {lo n md : Nat} {s s' : ZSt} {c1 c2 : Nat} {r a b t1 t2 : ZT} {rest : ZSs} {ρ : Nat → Int} {h : MH} {c : Nat} {F : Nat → Int} {k k' : List Nat} (B : Kn G ρ h s.2.2) (g : StrZ T h) (hw : BlkW h (hblk h c F) (zv ρ r) (zv ρ a) (zv ρ b) (fB md h ρ t1 t2)) (e1 : (c1 : Int) ≤ zv ρ r) (e2 : c2 = 0 ∨ zv ρ r ≤ (c2 : Int)) (a0 : 0 ≤ zv ρ a) (bK : zv ρ b ≤ 1099511627776) (e : xBlk G T M lo n md s c1 c2 r a b t1 t2 rest k = some (s', k')) : Kn G ρ (hblk h c F) s'.2.2 ∧ s'.1 = s.1 ∧ s'.2.1 = rest ∧ Frm M h (hblk h c F) := by
  unfold xBlk at e
  split at e
  · next m k1 =>
    split at e
    · next q hq =>
      cases w1 : zsubR (c1, c2, 0, 1099511627775) q with
      | false => rw [w1] at e; cases e
      | true =>
        rw [w1] at e
        replace e : (match wrV2 G T lo n md s.2.2 (c1, c2, 0, 1099511627775) r a b t1 t2 s.2.2.2.2.2 k1 with
          | some (V, k) => (match k with
            | 0 :: k => some ((s.1, rest, (s.2.2.1, s.2.2.2.1, wrA2 s.2.2.1 c1 c2 r s.2.2.2.2.1, V)), k)
            | 1 :: b1 :: b2 :: k => bif Nat.beq md 0 && ([r, a, b, t1].all (fun t => !(zoc (fun u => zmem u [b1, b2]) t)) && !(Nat.beq b1 b2)) then some ((s.1, rest, (s.2.2.1, s.2.2.2.1, wrA2 s.2.2.1 c1 c2 r s.2.2.2.2.1, (0, [b1, b2], [((c1, c2, 0, 1099511627775), r, zx b1, zx b2)], [zsb (zx b1) a, zpl (zsb b (zx b1)) (-1)], [zsb (zx b2) t1, zsb t1 (zx b2)]) :: V)), k) else none
            | 2 :: m1 :: m2 :: k => (match zget s.2.2.2.2.1 m1, zget s.2.2.2.2.1 m2 with
              | some p, some q => (match rdCs 4 k with
                | (cs, k) => bif Nat.beq md 1 && (zeq p.1 t1 && (zeq q.1 t1 && zcerts s.2.2.1 cs [zsb (zsb p.2.1 t2) a, zpl (zsb b (zsb p.2.1 t2)) (-1), zsb (zsb q.2.1 t2) a, zpl (zsb b (zsb q.2.1 t2)) (-1)])) then some ((s.1, rest, (s.2.2.1, s.2.2.2.1, (r, zsb p.2.1 t2, p.2.2) :: (r, zsb q.2.1 t2, q.2.2) :: wrA2 s.2.2.1 c1 c2 r s.2.2.2.2.1, V)), k) else none)
              | _, _ => none)
            | _ => none)
          | none => none) = some (s', k') := e
        have iw : ∀ i, zv ρ a ≤ i → i < zv ρ b → inZ (c1, c2, 0, 1099511627775) (zv ρ r) i := fun i i1 i2 => ⟨⟨e1, e2⟩, Or.inr ⟨by show ((0 : Nat) : Int) ≤ i; omega, by show i ≤ ((1099511627775 : Nat) : Int); omega⟩⟩
        have F1 : Frm [(c1, c2, 0, 1099511627775)] h (hblk h c F) := Frm.blk hw List.mem_cons_self iw
        have F2 : Frm M h (hblk h c F) := Frm.blk hw (zget_mem hq) fun i i1 i2 => zsubR_of w1 (iw i i1 i2)
        split at e
        · next V k2 e3 =>
          have hV := wrV2_of gk B g hw iw F1 B.2.2.2 e3
          have hA := wrA2_of hw bK e1 e2 B.2.2.1 B.1
          split at e
          · cases e
            exact ⟨⟨B.1, B.2.1, hA, hV⟩, rfl, rfl, F2⟩
          · next b1 b2 k3 =>
            cases w2 : (Nat.beq md 0 && ([r, a, b, t1].all (fun t => !(zoc (fun u => zmem u [b1, b2]) t)) && !(Nat.beq b1 b2))) with
            | false => rw [w2] at e; cases e
            | true =>
              rw [w2] at e
              cases e
              obtain ⟨u1, u2⟩ := andB w2
              obtain ⟨u2, u3⟩ := andB u2
              have u1 := beqN u1
              subst u1
              have u2 := List.all_eq_true.mp u2
              refine ⟨⟨B.1, B.2.1, hA, List.forall_mem_cons.mpr ⟨?_, hV⟩⟩, rfl, rfl, F2⟩
              intro β hβ he hg x hx
              have ev : ∀ t ∈ [r, a, b, t1], zv β t = zv ρ t := fun t ht => zoc_no (notB (u2 t ht)) hβ
              have er := ev r (by simp)
              have ea := ev a (by simp)
              have eb := ev b (by simp)
              have f1 := ev t1 (by simp)
              have q1 := (he _ List.mem_cons_self).2
              have g1 := hg _ List.mem_cons_self
              have g2 := hg _ (List.mem_cons_of_mem _ List.mem_cons_self)
              rw [zsb_v, zx_v, ea] at g1
              rw [zpl_v, zsb_v, zx_v, eb] at g2
              replace q1 : gz (hblk h c F) (zv β r) (zv β (zx b1)) = zv β (zx b2) := q1
              rw [er, zx_v, zx_v, hw, if_pos ⟨rfl, by omega, by omega⟩] at q1
              replace q1 : zv ρ t1 = β b2 := q1
              revert x
              exact all2 (by rw [zsb_v, zx_v, f1]; omega) (by rw [zsb_v, zx_v, f1]; omega)
          · next m1 m2 k8 =>
            split at e
            · next p q hp hq' =>
              split at e
              next cs k9 e9 =>
              cases w2 : (Nat.beq md 1 && (zeq p.1 t1 && (zeq q.1 t1 && zcerts s.2.2.1 cs [zsb (zsb p.2.1 t2) a, zpl (zsb b (zsb p.2.1 t2)) (-1), zsb (zsb q.2.1 t2) a, zpl (zsb b (zsb q.2.1 t2)) (-1)]))) with
              | false => rw [w2] at e; cases e
              | true =>
                rw [w2, cond_true] at e
                obtain ⟨u1, u2⟩ := andB w2
                obtain ⟨u2, u3⟩ := andB u2
                obtain ⟨u3, u4⟩ := andB u3
                have u1 := beqN u1
                subst u1
                have u2 := zeq_of u2
                have u3 := zeq_of u3
                have z := zcerts_of B.1 u4
                have y1 := z _ List.mem_cons_self
                have y2 := z _ (List.mem_cons_of_mem _ List.mem_cons_self)
                have y3 := z _ (List.mem_cons_of_mem _ (List.mem_cons_of_mem _ List.mem_cons_self))
                have y4 := z _ (List.mem_cons_of_mem _ (List.mem_cons_of_mem _ (List.mem_cons_of_mem _ List.mem_cons_self)))
                rw [zsb_v, zsb_v] at y1 y3
                rw [zpl_v, zsb_v, zsb_v] at y2 y4
                cases e
                have at' : ∀ x ∈ s.2.2.2.2.1, x.1 = t1 → zv ρ a ≤ zv ρ x.2.1 - zv ρ t2 → zv ρ x.2.1 - zv ρ t2 < zv ρ b → zA ρ (hblk h c F) (r, zsb x.2.1 t2, x.2.2) := fun x hx e1 g1 g2 => by
                  have := B.2.2.1 x hx
                  unfold zA at this ⊢
                  show gz _ (zv ρ r) (zv ρ (zsb x.2.1 t2)) = zv ρ x.2.2
                  rw [zsb_v, hw, if_pos ⟨rfl, g1, g2⟩]
                  show gz h (zv ρ t1) (zv ρ x.2.1 - zv ρ t2 + zv ρ t2) = zv ρ x.2.2
                  rw [← e1, Int.sub_add_cancel]
                  exact this
                exact ⟨⟨B.1, B.2.1, List.forall_mem_cons.mpr ⟨at' p (zget_mem hp) u2 (by omega) (by omega), List.forall_mem_cons.mpr ⟨at' q (zget_mem hq') u3 (by omega) (by omega), hA⟩⟩, hV⟩, rfl, rfl, F2⟩
            · cases e
          · cases e
        · cases e
    · cases e
  · cases e
/-- a cell is made at r: of a kind, so long, all 0 -/
theorem gz_new {h : MH} {kd n : Nat} (r' i' : Int) (ne : r' ≠ (h.1 : Int)) (nz : ¬ (r' = 2628 ∧ i' = 1099511627778)) : gz (hnew h (kd, n, fun _ => 0)) r' i' = gz h r' i' := by
  unfold gz
  by_cases q : 0 ≤ r' ∧ 0 ≤ i'
  · rw [if_pos q, if_pos q]
    have e : (hnew h (kd, n, fun _ => 0)).2 r'.toNat = h.2 r'.toNat := if_neg (by omega)
    rw [e]
    have l : (r'.toNat < (hnew h (kd, n, fun _ => 0)).1) = (r'.toNat < h.1) := by
      show (r'.toNat < h.1 + 1) = _
      exact propext ⟨fun z => by omega, fun z => by omega⟩
    simp only [l]
    have z1 : (if i' = 1099511627778 ∧ r' = 2628 then ((hnew h (kd, n, fun _ => 0)).1 : Int) else 0) = 0 := if_neg fun z => nz ⟨z.2, z.1⟩
    have z2 : (if i' = 1099511627778 ∧ r' = 2628 then (h.1 : Int) else 0) = 0 := if_neg fun z => nz ⟨z.2, z.1⟩
    rw [z1, z2]
  · rw [if_neg q, if_neg q]
theorem gz_new_at {h : MH} {kd n : Nat} (i' : Int) (i0 : 0 ≤ i') (i1 : i' ≤ 1099511627777) : gz (hnew h (kd, n, fun _ => 0)) (h.1 : Int) i' = if i' < 1099511627776 then 0 else if i' = 1099511627776 then (kd : Int) + 1 else (n : Int) := by
  unfold gz
  have e : (hnew h (kd, n, fun _ => 0)).2 ((h.1 : Int)).toNat = (kd, n, fun _ => 0) := if_pos rfl
  rw [if_pos ⟨Int.natCast_nonneg _, i0⟩, e, if_pos (show ((h.1 : Int)).toNat < (hnew h (kd, n, fun _ => 0)).1 by show ((h.1 : Int)).toNat < h.1 + 1; omega)]
  by_cases a : i' < 1099511627776
  · rw [if_pos a, if_pos a]
  · by_cases b : i' = 1099511627776
    · rw [if_neg a, if_neg a, if_pos b, if_pos b]
    · rw [if_neg a, if_neg a, if_neg b, if_neg b, if_pos (by omega)]
/-- the place that tells how many cells there are -/
def isSz (e : ZE) : Bool := zeq e.2.1 (zc 2628) && zeq e.2.2.1 (zc 1099511627778)
def onN (kd : Nat) (len : ZT) (e : ZE) : List ZT := match e.2.2.1.2, e.2.2.1.1 with
  | [], .ofNat j => bif Nat.beq j 1099511627776 then [zsb e.2.2.2 (zc (Int.ofNat (kd + 1))), zsb (zc (Int.ofNat (kd + 1))) e.2.2.2] else bif Nat.beq j 1099511627777 then [zsb e.2.2.2 len, zsb len e.2.2.2] else bif Nat.blt j 1099511627776 then [e.2.2.2, zsm (-1) e.2.2.2] else []
  | _, _ => []
def wrE3 (G : ZG) (lo n kd : Nat) (w : ZR) (r len : ZT) (gs cs : List ZT) : List ZE → Bool → ZK → List Nat → Option (List Nat)
  | [], al, K, k => bif al then gpr G lo cs n (gs ++ K.1, K.2) k else some k
  | e :: es, al, K, k => bif zdis e.1 w then wrE3 G lo n kd w r len gs cs es al (K.1, K.2.1, e.2 :: K.2.2.1, K.2.2.2) k else
    bif isSz e then wrE3 G lo n kd w r len gs cs es true (zpl (zsb e.2.2.2 r) (-1) :: zpl (zsb r e.2.2.2) 1 :: K.1, K.2) k else
    bif zdis e.1 (2628, 2628, 1099511627778, 1099511627778) then (match wrE3 G lo n kd w r len gs cs es true (zsb e.2.1 r :: zsb r e.2.1 :: (onN kd len e ++ K.1), K.2) k with
    | some k => wrE3 G lo n kd w r len gs cs es al (K.1, K.2.1, e.2 :: K.2.2.1, K.2.2.2) k
    | none => none) else none
section NW
variable {G : ZG} {lo n kd nn : Nat} {w : ZR} {r len : ZT} {gs cs : List ZT} {β : Nat → Int} {h : MH}
theorem wrE3_of (hr : zv β r = (h.1 : Int)) (hl : zv β len = (nn : Int)) (iw : ∀ i, inZ w (h.1 : Int) i) (iz : inZ w 2628 1099511627778) (hg : ∀ g ∈ gs, 0 ≤ zv β g) : ∀ {es : List ZE} {al : Bool} {K : ZK} {k k' : List Nat}, Kn G β h K → wrE3 G lo n kd w r len gs cs es al K k = some k' → (∀ e ∈ es, zE β (hnew h (kd, nn, fun _ => 0)) e) → (∀ c ∈ cs, 0 ≤ zv β c) ∨ (al = false ∧ ∀ e ∈ es, zE β h e)
  | [], al, K, k, k', B, e, hh => by
    cases al with
    | false => exact Or.inr ⟨rfl, fun e he => absurd he List.not_mem_nil⟩
    | true => exact Or.inl (gpr_of (B.facts hg) e)
  | x :: es, al, K, k, k', B, e, hh => by
    have hx := hh x List.mem_cons_self
    have ht : ∀ e ∈ es, zE β (hnew h (kd, nn, fun _ => 0)) e := fun y hy => hh y (List.mem_cons_of_mem _ hy)
    have off : ∀ {k1 : List Nat}, ¬ (zv β x.2.1 = (h.1 : Int)) → ¬ (zv β x.2.1 = 2628 ∧ zv β x.2.2.1 = 1099511627778) → wrE3 G lo n kd w r len gs cs es al (K.1, K.2.1, x.2 :: K.2.2.1, K.2.2.2) k1 = some k' → (∀ c ∈ cs, 0 ≤ zv β c) ∨ (al = false ∧ ∀ e ∈ x :: es, zE β h e) := fun {k1} ne nz e => by
      have q := hx.2
      rw [gz_new _ _ ne nz] at q
      rcases wrE3_of hr hl iw iz hg (B.atom q) e ht with z | z
      · exact Or.inl z
      · exact Or.inr ⟨z.1, List.forall_mem_cons.mpr ⟨⟨hx.1, q⟩, z.2⟩⟩
    unfold wrE3 at e
    cases e1 : zdis x.1 w with
    | true =>
      rw [e1] at e
      exact off (fun z => zdis_of e1 hx.1 (by rw [z]; exact iw _)) (fun z => zdis_of e1 hx.1 (by rw [z.1, z.2]; exact iz)) e
    | false =>
      rw [e1, cond_false] at e
      cases eS : isSz x with
      | true =>
        rw [eS, cond_true] at e
        obtain ⟨s1, s2⟩ := andB eS
        have q := hx.2
        rw [zeq_of s1, zeq_of s2, zc_v, zc_v, gz_sz] at q
        replace q : ((h.1 + 1 : Nat) : Int) = zv β x.2.2.2 := q
        rcases wrE3_of hr hl iw iz hg ((B.fact (g := zpl (zsb r x.2.2.2) 1) (by rw [zpl_v, zsb_v]; omega)).fact (g := zpl (zsb x.2.2.2 r) (-1)) (by rw [zpl_v, zsb_v]; omega)) e ht with z | z
        · exact Or.inl z
        · cases z.1
      | false =>
      rw [eS, cond_false] at e
      cases eD : zdis x.1 (2628, 2628, 1099511627778, 1099511627778) with
      | false => rw [eD] at e; cases e
      | true =>
      rw [eD, cond_true] at e
      have nz : ¬ (zv β x.2.1 = 2628 ∧ zv β x.2.2.1 = 1099511627778) := fun z => zdis_of eD hx.1 (by rw [z.1, z.2]; exact ⟨⟨by decide, Or.inr (by decide)⟩, Or.inr ⟨by decide, by decide⟩⟩)
      split at e
      · next k1 e2 =>
        by_cases q : zv β x.2.1 = (h.1 : Int)
        · have q3 := hx.2
          rw [q] at q3
          have F : ∀ f ∈ onN kd len x, 0 ≤ zv β f := by
            unfold onN
            split
            · next j e4 e5 =>
              have vi : zv β x.2.2.1 = (j : Int) := by
                unfold zv
                rw [e4, e5]
                exact Int.add_zero _
              cases u1 : Nat.beq j 1099511627776 with
              | true =>
                have u1 := beqN u1
                rw [vi, gz_new_at _ (Int.natCast_nonneg j) (by omega), if_neg (by omega), if_pos (by omega)] at q3
                have a : Int.ofNat (kd + 1) = (kd : Int) + 1 := rfl
                exact all2 (by rw [zsb_v, zc_v]; omega) (by rw [zsb_v, zc_v]; omega)
              | false =>
                have u1 := beqN_no u1
                rw [cond_false]
                cases u2 : Nat.beq j 1099511627777 with
                | true =>
                  have u2 := beqN u2
                  rw [vi, gz_new_at _ (Int.natCast_nonneg j) (by omega), if_neg (by omega), if_neg (by omega)] at q3
                  exact all2 (by rw [zsb_v]; omega) (by rw [zsb_v]; omega)
                | false =>
                  rw [cond_false]
                  cases u3 : Nat.blt j 1099511627776 with
                  | true =>
                    have u3 := bltN u3
                    rw [vi, gz_new_at _ (Int.natCast_nonneg j) (by omega), if_pos (by omega)] at q3
                    exact all2 (by omega) (by rw [zsm_v]; omega)
                  | false => exact noF
            · exact noF
          have B2 := ((B.facts F).fact (g := zsb r x.2.1) (by rw [zsb_v]; omega)).fact (g := zsb x.2.1 r) (by rw [zsb_v]; omega)
          rcases wrE3_of hr hl iw iz hg B2 e2 ht with z | z
          · exact Or.inl z
          · cases z.1
        · exact off q nz e
      · cases e
end NW
def wrV3 (G : ZG) (T : ZTab) (lo n kd : Nat) (K : ZK) (w : ZR) (r len : ZT) : List ZC → List Nat → Option (List ZC × List Nat)
  | [], k => some ([], k)
  | c :: l, k => bif zkpC G [w] T.1 c then (match wrV3 G T lo n kd K w r len l k with
      | some (l, k) => some (c :: l, k)
      | none => none) else match k with
    | 0 :: k => wrV3 G T lo n kd K w r len l k
    | 1 :: k => (match zbody G c with
      | some q => bif !(zocK (fun u => zmem u q.1) K) && ([r, len].all (fun t => !(zoc (fun u => zmem u q.1) t)) && (Nat.beq c.1 0 || !(zocB (fun u => !(zmem u q.1)) q))) then (match wrE3 G lo n kd w r len q.2.2.1 q.2.2.2 q.2.1 false K k with
        | some k => (match wrV3 G T lo n kd K w r len l k with
          | some (l, k) => some (c :: l, k)
          | none => none)
        | none => none) else none
      | none => none)
    | _ => none
theorem wrV3_of {G : ZG} (gk : GOk G) {T : ZTab} {lo n kd nn : Nat} {K : ZK} {w : ZR} {r len : ZT} {ρ : Nat → Int} {h : MH} (B : Kn G ρ h K) (g : StrZ T h) (hr : zv ρ r = (h.1 : Int)) (hl : zv ρ len = (nn : Int)) (iw : ∀ i, inZ w (h.1 : Int) i) (iz : inZ w 2628 1099511627778) (F : Frm [w] h (hnew h (kd, nn, fun _ => 0))) : ∀ {l l' : List ZC} {k k' : List Nat}, (∀ c ∈ l, zCl G ρ h c) → wrV3 G T lo n kd K w r len l k = some (l', k') → ∀ c ∈ l', zCl G ρ (hnew h (kd, nn, fun _ => 0)) c
  | [], l', k, k', _, e, c, hc => by cases e; exact absurd hc List.not_mem_nil
  | d :: l, l', k, k', Bl, e, c, hc => by
    have Bt : ∀ c ∈ l, zCl G ρ h c := fun x hx => Bl x (List.mem_cons_of_mem _ hx)
    have fin : zCl G ρ (hnew h (kd, nn, fun _ => 0)) d → ∀ {k1 : List Nat}, (match wrV3 G T lo n kd K w r len l k1 with
        | some (l, k) => some (d :: l, k)
        | none => none) = some (l', k') → zCl G ρ (hnew h (kd, nn, fun _ => 0)) c := fun hd {k1} e => by
      split at e
      · next l1 k2 e1 =>
        cases e
        rcases List.mem_cons.mp hc with z | z
        · exact z ▸ hd
        · exact wrV3_of gk B g hr hl iw iz F Bt e1 c z
      · cases e
    unfold wrV3 at e
    cases e1 : zkpC G [w] T.1 d with
    | true =>
      rw [e1] at e
      exact fin (zCl_kp gk F g.1.1 e1 (Bl d List.mem_cons_self)) e
    | false =>
      rw [e1, cond_false] at e
      split at e
      · exact wrV3_of gk B g hr hl iw iz F Bt e c hc
      · next k1 =>
        split at e
        · next q hq =>
          cases e2 : (!(zocK (fun u => zmem u q.1) K) && ([r, len].all (fun t => !(zoc (fun u => zmem u q.1) t)) && (Nat.beq d.1 0 || !(zocB (fun u => !(zmem u q.1)) q)))) with
          | false => rw [e2] at e; cases e
          | true =>
            rw [e2, cond_true] at e
            obtain ⟨h1, h2'⟩ := andB e2
            obtain ⟨h3, h5⟩ := andB h2'
            have h3 := List.all_eq_true.mp h3
            split at e
            · next k2 e3 =>
              refine fin (zCl_of hq (fun hn => ?_) ?_) e
              · rw [Bool.or_eq_true] at h5
                rcases h5 with z | z
                · exact absurd (beqN z) hn
                · exact notB z
              · intro β hβ he hg
                have ev : ∀ t ∈ [r, len], zv β t = zv ρ t := fun t ht => zoc_no (notB (h3 t ht)) hβ
                have er := ev r (by simp)
                have el := ev len (by simp)
                rcases wrE3_of (β := β) (h := h) (by rw [er]; exact hr) (by rw [el]; exact hl) iw iz hg (B.cg (notB h1) hβ) e3 he with z | z
                · exact z
                · exact zbody_of hq (Bl d List.mem_cons_self) β hβ z.2 hg
            · cases e
        · cases e
      · cases e
theorem StrZ.new {T : ZTab} {h : MH} (tk : TabOk T) (g : StrZ T h) (c : MC) : StrZ T (hnew h c) := by
  have at' : ∀ d, d < T.1 → (hnew h c).2 d = h.2 d := fun d hd => by
    show (if d = h.1 then _ else _) = _
    rw [if_neg (by have := g.1.1; omega)]
  refine ⟨⟨by show T.1 ≤ h.1 + 1; have := g.1.1; omega, fun d d1 d2 => ?_⟩, fun d j q => ?_, fun d j q => ?_⟩
  · rw [at' d d2]
    exact g.1.2 d d1 d2
  · rw [at' d (tk.1 d j q).1]
    exact g.2.1 d j q
  · rw [at' d (tk.2 d j q).1]
    exact g.2.2 d j q
def zcst (T : ZTab) (a : ZA) : Bool := match a.1.2, a.1.1 with
  | [], .ofNat c => Nat.blt c T.1
  | _, _ => false
/-- atoms of cells that are there: those of fixed cells, others with a proof -/
def kpN (T : ZTab) (F : List ZT) (r : ZT) : List ZA → List Nat → Option (List ZA × List Nat)
  | [], k => some ([], k)
  | a :: l, k => bif zcst T a then (match kpN T F r l k with
      | some (l, k) => some (a :: l, k)
      | none => none) else match k with
    | 0 :: k => kpN T F r l k
    | 1 :: k => (match a.2.1.2, a.2.1.1 with
      | [], .ofNat j => bif Nat.beq j 1099511627778 then none else (match rdC k with
        | (c, k) => bif zcert F c (zpl (zsb r a.1) (-1)) then (match kpN T F r l k with
          | some (l, k) => some (a :: l, k)
          | none => none) else none)
      | _, _ => none)
    | _ => none
theorem kpN_of {T : ZTab} (ht : T.1 ≤ 2628) {F : List ZT} {r : ZT} {ρ : Nat → Int} {h : MH} {kd n : Nat} (g : T.1 ≤ h.1) (hF : ∀ f ∈ F, 0 ≤ zv ρ f) (hr : zv ρ r = (h.1 : Int)) : ∀ {l l' : List ZA} {k k' : List Nat}, (∀ a ∈ l, zA ρ h a) → kpN T F r l k = some (l', k') → ∀ a ∈ l', zA ρ (hnew h (kd, n, fun _ => 0)) a
  | [], _, _, _, _, e, a, ha => by cases e; exact absurd ha List.not_mem_nil
  | x :: l, l', k, k', A, e, a, ha => by
    have At : ∀ c ∈ l, zA ρ h c := fun y hy => A y (List.mem_cons_of_mem _ hy)
    have fin : zA ρ (hnew h (kd, n, fun _ => 0)) x → ∀ {k1 : List Nat}, (match kpN T F r l k1 with
        | some (l, k) => some (x :: l, k)
        | none => none) = some (l', k') → zA ρ (hnew h (kd, n, fun _ => 0)) a := fun hd {k1} e => by
      split at e
      · next l1 k2 e1 =>
        cases e
        rcases List.mem_cons.mp ha with z | z
        · exact z ▸ hd
        · exact kpN_of ht g hF hr At e1 a z
      · cases e
    unfold kpN at e
    cases e1 : zcst T x with
    | true =>
      rw [e1, cond_true] at e
      refine fin ?_ e
      have := A x List.mem_cons_self
      unfold zcst at e1
      split at e1
      · next c q1 q2 =>
        have m2 := bltN e1
        have v : zv ρ x.1 = (c : Int) := by
          unfold zv
          rw [q1, q2]
          exact Int.add_zero _
        unfold zA at this ⊢
        rw [gz_new _ _ (by omega) (by omega)]
        exact this
      · cases e1
    | false =>
      rw [e1, cond_false] at e
      split at e
      · exact kpN_of ht g hF hr At e a ha
      · next k1 =>
        split at e
        · next j q1 q2 =>
          cases e2 : Nat.beq j 1099511627778 with
          | true => rw [e2] at e; cases e
          | false =>
            rw [e2, cond_false] at e
            split at e
            next c k2 e3 =>
            cases e4 : zcert F c (zpl (zsb r x.1) (-1)) with
            | false => rw [e4] at e; cases e
            | true =>
              rw [e4, cond_true] at e
              refine fin ?_ e
              have c1 := zcert_of hF e4
              rw [zpl_v, zsb_v, hr] at c1
              have v : zv ρ x.2.1 = (j : Int) := by
                unfold zv
                rw [q1, q2]
                exact Int.add_zero _
              have := A x List.mem_cons_self
              have nj := beqN_no e2
              unfold zA at this ⊢
              rw [gz_new _ _ (by omega) (by omega)]
              exact this
        · cases e
      · cases e
/-- all of what is made is 0 -/
def zcz (r : ZT) (k : List Nat) : Option (List ZC × List Nat) := match k with
  | 0 :: k => some ([], k)
  | 1 :: b1 :: b2 :: k => bif !(Nat.beq b1 b2) && !(zoc (fun u => zmem u [b1, b2]) r) then some ([(0, ([b1, b2], [((2628, 0, 0, 1099511627775), r, zx b1, zx b2)], [], [zx b2, zsm (-1) (zx b2)]))], k) else none
  | _ => none
theorem zcz_of {G : ZG} {ρ : Nat → Int} {h : MH} {kd n : Nat} {r : ZT} (hr : zv ρ r = (h.1 : Int)) {k k' : List Nat} {Z : List ZC} (e : zcz r k = some (Z, k')) : ∀ c ∈ Z, zCl G ρ (hnew h (kd, n, fun _ => 0)) c := by
  unfold zcz at e
  split at e
  · cases e
    exact fun c hc => absurd hc List.not_mem_nil
  · next b1 b2 k1 =>
    obtain ⟨h1, e⟩ := bifS e
    cases e
    obtain ⟨_, h2⟩ := andB h1
    intro c hc
    rw [List.mem_singleton.mp hc]
    intro β hβ he hg
    have er : zv β r = zv ρ r := zoc_no (notB h2) hβ
    obtain ⟨q1, q2⟩ := he _ List.mem_cons_self
    replace q1 : inZ (2628, 0, 0, 1099511627775) (zv β r) (zv β (zx b1)) := q1
    replace q2 : gz (hnew h (kd, n, fun _ => 0)) (zv β r) (zv β (zx b1)) = zv β (zx b2) := q2
    obtain ⟨_, q3⟩ := q1
    have a : (0 : Int) ≤ zv β (zx b1) ∧ zv β (zx b1) < 1099511627776 := by
      rcases q3 with q3 | q3
      · exact absurd q3 (by decide)
      · obtain ⟨q4, q5⟩ := q3
        replace q4 : (0 : Int) ≤ zv β (zx b1) := q4
        replace q5 : zv β (zx b1) ≤ 1099511627775 := q5
        omega
    rw [er, hr, gz_new_at _ a.1 (by omega), if_pos a.2] at q2
    exact all2 (by rw [← q2]; omega) (by rw [zsm_v, ← q2]; omega)
  · cases e
/-- an array is made: of a kind, so long -/
def xMk (G : ZG) (T : ZTab) (M : List ZR) (lo n kd : Nat) (s : ZSt) (k : List Nat) : Option (ZSt × List Nat) := match s.2.1, k with
  | v :: rest, p :: x :: m :: k => (match rdCs 2 k with
    | (cs, k) => (match zget M m, zget s.2.2.2.2.1 x with
      | some q, some z => bif Nat.beq v.1 0 && (Nat.ble p 10000000 && (zcerts s.2.2.1 cs [v.2, zsb (zc (Int.ofNat p)) v.2] && (zsubR (T.1, 0, 1, 0) q && (Nat.beq T.1 2628 && (zeq z.1 (zc 2628) && zeq z.2.1 (zc 1099511627778)))))) then (match kpN T s.2.2.1 z.2.2 s.2.2.2.2.1 k with
        | some (A, k) => (match wrV3 G T lo n kd s.2.2 (T.1, 0, 1, 0) z.2.2 v.2 s.2.2.2.2.2 k with
          | some (V, k) => (match zcz z.2.2 k with
            | some (Z, k) => some ((s.1, (2, z.2.2) :: rest, (zpl z.2.2 (-2628) :: s.2.2.1, s.2.2.2.1, (z.2.2, zc 1099511627776, zc (Int.ofNat (kd + 1))) :: (z.2.2, zc 1099511627777, v.2) :: (zc 2628, zc 1099511627778, zpl z.2.2 1) :: A, Z ++ V)), k)
            | none => none)
          | none => none)
        | none => none) else none
      | _, _ => none))
  | _, _ => none
theorem xMk_of {G : ZG} (gk : GOk G) {T : ZTab} (tk : TabOk T) {M : List ZR} {lo n kd : Nat} {s s' : ZSt} {ρ : Nat → Int} {h : MH} {k k' : List Nat} (B : Kn G ρ h s.2.2) (g : StrZ T h) (e : xMk G T M lo n kd s k = some (s', k')) : ∃ v rest p k1, k = p :: k1 ∧ p ≤ 10000000 ∧ s.2.1 = (0, v) :: rest ∧ 0 ≤ zv ρ v ∧ zv ρ v ≤ (p : Int) ∧ ∃ ρ', (∀ u, u < lo → ρ' u = ρ u) ∧ Kn G ρ' (hnew h (kd, (zv ρ v).toNat, fun _ => 0)) s'.2.2 ∧ zL ρ' s'.1 = zL ρ s.1 ∧ zSk ρ' s'.2.1 = (2, (h.1 : Int)) :: zSk ρ rest ∧ StrZ T (hnew h (kd, (zv ρ v).toNat, fun _ => 0)) ∧ Frm M h (hnew h (kd, (zv ρ v).toNat, fun _ => 0)) := by
  unfold xMk at e
  split at e
  · next v rest p x m k1 hS =>
    split at e
    next cs k2 e1 =>
    split at e
    · next q z hq hz =>
      cases e2 : (Nat.beq v.1 0 && (Nat.ble p 10000000 && (zcerts s.2.2.1 cs [v.2, zsb (zc (Int.ofNat p)) v.2] && (zsubR (T.1, 0, 1, 0) q && (Nat.beq T.1 2628 && (zeq z.1 (zc 2628) && zeq z.2.1 (zc 1099511627778))))))) with
      | false => rw [e2] at e; cases e
      | true =>
        rw [e2, cond_true] at e
        obtain ⟨b1, b2⟩ := andB e2
        obtain ⟨b2, b3⟩ := andB b2
        obtain ⟨b3, b4⟩ := andB b3
        obtain ⟨b4, b5⟩ := andB b4
        obtain ⟨b5, b6⟩ := andB b5
        obtain ⟨b6, b7⟩ := andB b6
        have b5 := beqN b5
        have c := zcerts_of B.1 b3
        have c1 := c _ List.mem_cons_self
        have c2 := c _ (List.mem_cons_of_mem _ List.mem_cons_self)
        rw [zsb_v, zc_v] at c2
        have c2 : 0 ≤ (p : Int) - zv ρ v.2 := c2
        have xv := B.2.2.1 _ (zget_mem hz)
        unfold zA at xv
        rw [zeq_of b6, zeq_of b7, zc_v, zc_v, gz_sz] at xv
        replace xv : zv ρ z.2.2 = (h.1 : Int) := xv.symm
        split at e
        · next A k3 e3 =>
          split at e
          · next V k4 e4 =>
            split at e
            case h_2 => cases e
            next Z k5 e5 =>
            cases e
            have hn : T.1 ≤ h.1 := g.1.1
            have iw : ∀ i, inZ (T.1, 0, 1, 0) (h.1 : Int) i := fun i => ⟨⟨by show (T.1 : Int) ≤ (h.1 : Int); omega, Or.inl rfl⟩, Or.inl (by decide : (0 : Nat) < 1)⟩
            have iz : inZ (T.1, 0, 1, 0) 2628 1099511627778 := ⟨⟨by show (T.1 : Int) ≤ 2628; omega, Or.inl rfl⟩, Or.inl (by decide : (0 : Nat) < 1)⟩
            have fr : ∀ {M' : List ZR} {q' : ZR}, q' ∈ M' → (∀ i, inZ q' (h.1 : Int) i) → inZ q' 2628 1099511627778 → Frm M' h (hnew h (kd, (zv ρ v.2).toNat, fun _ => 0)) := fun {M' q'} hm hi hj => ⟨Nat.le_succ _, fun c hc => by
              have : (hnew h (kd, (zv ρ v.2).toNat, fun _ => 0)).2 c = h.2 c := if_neg (by omega)
              rw [this]
              exact ⟨rfl, rfl⟩, fun r' i' ne => gz_new r' i' (fun z => ne q' hm (by rw [z]; exact hi i')) fun z => ne q' hm (by rw [z.1, z.2]; exact hj)⟩
            have F1 : Frm [(T.1, 0, 1, 0)] h (hnew h (kd, (zv ρ v.2).toNat, fun _ => 0)) := fr List.mem_cons_self iw iz
            have F2 : Frm M h (hnew h (kd, (zv ρ v.2).toNat, fun _ => 0)) := fr (zget_mem hq) (fun i => zsubR_of b4 (iw i)) (zsubR_of b4 iz)
            have vn : zv ρ v.2 = (((zv ρ v.2).toNat : Nat) : Int) := by omega
            have hV := wrV3_of (kd := kd) gk B g xv vn iw iz F1 B.2.2.2 e4
            have hA := kpN_of (kd := kd) (n := (zv ρ v.2).toNat) (by omega) hn B.1 xv B.2.2.1 e3
            have hZ := zcz_of (G := G) (kd := kd) (n := (zv ρ v.2).toNat) xv e5
            refine ⟨v.2, rest, p, x :: m :: k1, rfl, bleN b2, by rw [hS, ← beqN b1], c1, by omega, ρ, fun u hu => rfl, ⟨List.forall_mem_cons.mpr ⟨?_, B.1⟩, B.2.1, List.forall_mem_cons.mpr ⟨?_, List.forall_mem_cons.mpr ⟨?_, List.forall_mem_cons.mpr ⟨?_, hA⟩⟩⟩, fun c hc => (List.mem_append.mp hc).elim (hZ c) (hV c)⟩, rfl, ?_, g.new tk _, F2⟩
            · rw [zpl_v, xv]
              omega
            · unfold zA
              show gz _ (zv ρ z.2.2) (zv ρ (zc 1099511627776)) = zv ρ (zc (Int.ofNat (kd + 1)))
              rw [xv, zc_v, zc_v, gz_new_at _ (by decide) (by decide), if_neg (by decide), if_pos rfl]
              rfl
            · unfold zA
              show gz _ (zv ρ z.2.2) (zv ρ (zc 1099511627777)) = zv ρ v.2
              rw [xv, zc_v, gz_new_at _ (by decide) (by decide), if_neg (by decide), if_neg (by decide), vn]
              rfl
            · unfold zA
              show gz _ (zv ρ (zc 2628)) (zv ρ (zc 1099511627778)) = zv ρ (zpl z.2.2 1)
              rw [zc_v, zc_v, gz_sz, zpl_v, xv]
              rfl
            · show (2, zv ρ z.2.2) :: zSk ρ rest = _
              rw [xv]
          · cases e
        · cases e
    · cases e
  · cases e

theorem gz_gen {h : MH} {c : Nat} {a b : Int} {f : Int → Int} (a0 : 0 ≤ a) (bK : b ≤ 1099511627776) (r' i' : Int) : gz (hblk h c fun q => if a.toNat ≤ q ∧ q < b.toNat then f (q : Int) else (h.2 c).2.2 q) r' i' = if r' = (c : Int) ∧ (a ≤ i' ∧ i' < b) then f i' else gz h r' i' := by
  by_cases q : 0 ≤ r' ∧ 0 ≤ i'
  · by_cases k : i' < 1099511627776
    · rw [gz_at q.1 q.2 k, gz_at q.1 q.2 k]
      unfold hblk
      show ((if r'.toNat = c then _ else _ : MC)).2.2 i'.toNat = _
      by_cases e : r' = (c : Int)
      · rw [if_pos (by omega)]
        show (if a.toNat ≤ i'.toNat ∧ i'.toNat < b.toNat then f ((i'.toNat : Nat) : Int) else (h.2 c).2.2 i'.toNat) = _
        have ei : ((i'.toNat : Nat) : Int) = i' := by omega
        have ec : r'.toNat = c := by omega
        by_cases e2 : a ≤ i' ∧ i' < b
        · rw [if_pos (by omega), if_pos ⟨e, e2⟩, ei]
        · rw [if_neg (by omega), if_neg (fun z => e2 z.2), ec]
      · rw [if_neg (by omega), if_neg (fun z => e z.1)]
    · rw [if_neg fun z => k (by omega)]
      exact gz_hi (h := h) (h2 := hblk h c fun q => if a.toNat ≤ q ∧ q < b.toNat then f (q : Int) else (h.2 c).2.2 q) rfl (fun d => hblk_same h c _ d) k
  · rw [gz_neg q, if_neg (fun z => q ⟨by omega, by omega⟩), gz_neg q]
/-- behind the one element of cell 2627 lie numbers that the machine doesn't have: what is told of them serves proofs alone -/
def kpG (F : List ZT) (i1 i2 : Nat) : List ZA → List Nat → Option (List ZA × List Nat)
  | [], k => some ([], k)
  | a :: l, k => bif zout 2627 2627 a.1 || (zhi a.2.1 || zout i1 i2 a.2.1) then (match kpG F i1 i2 l k with
      | some (l, k) => some (a :: l, k)
      | none => none) else match k with
    | 0 :: k => kpG F i1 i2 l k
    | 1 :: k => (match rdC k with
      | (c, k) => bif zcert F c (zpl a.1 (-2628)) then (match kpG F i1 i2 l k with
        | some (l, k) => some (a :: l, k)
        | none => none) else none)
    | 2 :: k => (match rdC k with
      | (c, k) => bif zcert F c (zsb (zc (Int.ofNat i1 - 1)) a.2.1) then (match kpG F i1 i2 l k with
        | some (l, k) => some (a :: l, k)
        | none => none) else none)
    | 3 :: k => (match rdC k with
      | (c, k) => bif zcert F c (zpl a.2.1 (-(Int.ofNat i2 + 1))) then (match kpG F i1 i2 l k with
        | some (l, k) => some (a :: l, k)
        | none => none) else none)
    | _ => none
theorem zhi_of {t : ZT} (e : zhi t = true) (ρ : Nat → Int) : 1099511627776 ≤ zv ρ t := by
  unfold zhi at e
  obtain ⟨e1, e2⟩ := andB e
  have e1 := zleq_of e1
  have e2 := zIn_of e2
  have : zv ρ t = t.1 := by
    unfold zv
    rw [e1]
    exact Int.add_zero _
  omega
theorem zout_of {c1 c2 : Nat} {t : ZT} (e : zout c1 c2 t = true) (ρ : Nat → Int) : zv ρ t < (c1 : Int) ∨ (c2 ≠ 0 ∧ (c2 : Int) < zv ρ t) := by
  unfold zout at e
  obtain ⟨e1, e2⟩ := andB e
  have e1 := zleq_of e1
  have v : zv ρ t = t.1 := by
    unfold zv
    rw [e1]
    exact Int.add_zero _
  rw [Bool.or_eq_true] at e2
  rcases e2 with e2 | e2
  · have e2 := zIn_of e2
    have : Int.ofNat c1 = (c1 : Int) := rfl
    exact Or.inl (by omega)
  · obtain ⟨e2, e3⟩ := andB e2
    have e3 := zIn_of e3
    have : Int.ofNat c2 = (c2 : Int) := rfl
    refine Or.inr ⟨fun z => ?_, by omega⟩
    rw [z] at e2
    cases e2
theorem kpG_of {F : List ZT} {i1 i2 : Nat} {ρ : Nat → Int} {h h2 : MH} {a b : Int} {f : Int → Int} (hw : BlkW h h2 2627 a b f) (ha : (i1 : Int) ≤ a) (hb : b ≤ (i2 : Int) + 1) (bK : b ≤ 1099511627776) (hF : ∀ f ∈ F, 0 ≤ zv ρ f) : ∀ {l l' : List ZA} {k k' : List Nat}, (∀ a ∈ l, zA ρ h a) → kpG F i1 i2 l k = some (l', k') → ∀ a ∈ l', zA ρ h2 a
  | [], _, _, _, _, e, x, hx => by cases e; exact absurd hx List.not_mem_nil
  | y :: l, l', k, k', A, e, x, hx => by
    have At : ∀ c ∈ l, zA ρ h c := fun z hz => A z (List.mem_cons_of_mem _ hz)
    have keep : ¬ (zv ρ y.1 = 2627 ∧ (a ≤ zv ρ y.2.1 ∧ zv ρ y.2.1 < b)) → zA ρ h2 y := fun ne => by
      have := A y List.mem_cons_self
      unfold zA at this ⊢
      rw [hw, if_neg ne]
      exact this
    have fin : zA ρ h2 y → ∀ {k1 : List Nat}, (match kpG F i1 i2 l k1 with
        | some (l, k) => some (y :: l, k)
        | none => none) = some (l', k') → zA ρ h2 x := fun hd {k1} e => by
      split at e
      · next l1 k2 e1 =>
        cases e
        rcases List.mem_cons.mp hx with z | z
        · exact z ▸ hd
        · exact kpG_of hw ha hb bK hF At e1 x z
      · cases e
    unfold kpG at e
    cases e1 : (zout 2627 2627 y.1 || (zhi y.2.1 || zout i1 i2 y.2.1)) with
    | true =>
      rw [e1, cond_true] at e
      refine fin (keep fun z => ?_) e
      rw [Bool.or_eq_true, Bool.or_eq_true] at e1
      rcases e1 with e1 | e1 | e1
      · have := zout_of e1 ρ
        have : ((2627 : Nat) : Int) = 2627 := rfl
        omega
      · have := zhi_of e1 ρ
        omega
      · have := zout_of e1 ρ
        omega
    | false =>
      rw [e1, cond_false] at e
      split at e
      · exact kpG_of hw ha hb bK hF At e x hx
      · next k1 =>
        split at e
        next c k2 e3 =>
        cases e4 : zcert F c (zpl y.1 (-2628)) with
        | false => rw [e4] at e; cases e
        | true =>
          rw [e4, cond_true] at e
          have c1 := zcert_of hF e4
          rw [zpl_v] at c1
          exact fin (keep fun z => by omega) e
      · next k1 =>
        split at e
        next c k2 e3 =>
        cases e4 : zcert F c (zsb (zc (Int.ofNat i1 - 1)) y.2.1) with
        | false => rw [e4] at e; cases e
        | true =>
          rw [e4, cond_true] at e
          have c1 := zcert_of hF e4
          rw [zsb_v, zc_v] at c1
          have o1 : Int.ofNat i1 = (i1 : Int) := rfl
          exact fin (keep fun z => by omega) e
      · next k1 =>
        split at e
        next c k2 e3 =>
        cases e4 : zcert F c (zpl y.2.1 (-(Int.ofNat i2 + 1))) with
        | false => rw [e4] at e; cases e
        | true =>
          rw [e4, cond_true] at e
          have c1 := zcert_of hF e4
          rw [zpl_v] at c1
          have o2 : Int.ofNat i2 = (i2 : Int) := rfl
          exact fin (keep fun z => by omega) e
      · cases e
def xGh (G : ZG) (T : ZTab) (M : List ZR) (lo n : Nat) (s : ZSt) (k : List Nat) : Option (ZSt × List Nat) := match k with
  | m :: i1 :: i2 :: md :: k => (match rdT k with
    | (a, k) => (match rdT k with
      | (b, k) => (match rdT k with
        | (t1, k) => (match rdT k with
          | (t2, k) => (match rdCs 2 k with
            | (cs, k) => (match zget M m with
              | some q => bif zsubR (2627, 2627, i1, i2) q && (Nat.ble i1 i2 && (Nat.ble 1 i1 && (Nat.ble i2 1099511627775 && (Nat.beq (T.2.1 2627) 1 && (Nat.beq (T.2.2.1 2627) 1 && (Nat.beq T.1 2628 && zcerts s.2.2.1 cs [zpl a (-(Int.ofNat i1)), zsb (zc (Int.ofNat i2 + 1)) b])))))) then (match wrV2 G T lo n md s.2.2 (2627, 2627, i1, i2) (zc 2627) a b t1 t2 s.2.2.2.2.2 k with
                | some (V, k) => (match kpG s.2.2.1 i1 i2 s.2.2.2.2.1 k with
                  | some (A, k) => (match k with
                    | 0 :: k => some ((s.1, s.2.1, (s.2.2.1, s.2.2.2.1, A, V)), k)
                    | 1 :: k => (match rdC k with
                      | (c, k) => bif Nat.beq md 0 && zcert s.2.2.1 c (zpl (zsb b a) (-1)) then some ((s.1, s.2.1, (s.2.2.1, s.2.2.2.1, (zc 2627, a, t1) :: A, V)), k) else none)
                    | 2 :: b1 :: b2 :: k => bif !(Nat.beq md 1) && ([a, b, t1].all (fun t => !(zoc (fun u => zmem u [b1, b2]) t)) && !(Nat.beq b1 b2)) then some ((s.1, s.2.1, (s.2.2.1, s.2.2.2.1, A, (0, [b1, b2], [((2627, 2627, i1, i2), zc 2627, zx b1, zx b2)], [zsb (zx b1) a, zpl (zsb b (zx b1)) (-1)], onF md t1 ((2627, 2627, i1, i2), zc 2627, zx b1, zx b2)) :: V)), k) else none
                    | _ => none)
                  | none => none)
                | none => none) else none
              | none => none))))))
  | _ => none
theorem onF_fB {md : Nat} (hm : Nat.beq md 1 = false) {h : MH} {β ρ : Nat → Int} {t1 t2 : ZT} {e : ZE} (f1 : zv β t1 = zv ρ t1) (q : fB md h ρ t1 t2 (zv β e.2.2.1) = zv β e.2.2.2) : ∀ x ∈ onF md t1 e, 0 ≤ zv β x := by
  match md, hm, q with
  | 0, _, q =>
    have q : zv ρ t1 = zv β e.2.2.2 := q
    exact all2 (by rw [zsb_v]; omega) (by rw [zsb_v]; omega)
  | 1, hm, _ => cases hm
  | md + 2, _, q =>
    have q : zv β e.2.2.1 + zv ρ t1 = zv β e.2.2.2 := q
    exact all2 (by rw [zsb_v, zadd_v]; omega) (by rw [zsb_v, zadd_v]; omega)
theorem xGh_of {G : ZG} (gk : GOk G) {T : ZTab} (tk : TabOk T) {M : List ZR} {lo n : Nat} {s s' : ZSt} {ρ : Nat → Int} {h : MH} {k k' : List Nat} (B : Kn G ρ h s.2.2) (g : StrZ T h) (e : xGh G T M lo n s k = some (s', k')) : ∃ F : Nat → Int, Kn G ρ (hblk h 2627 F) s'.2.2 ∧ s'.1 = s.1 ∧ s'.2.1 = s.2.1 ∧ Frm M h (hblk h 2627 F) ∧ StrZ T (hblk h 2627 F) ∧ 2627 < h.1 ∧ (h.2 2627).1 = 1 ∧ ∀ j, j < (h.2 2627).2.1 → F j = (h.2 2627).2.2 j := by
  unfold xGh at e
  split at e
  · next m i1 i2 md k0 =>
    split at e
    next a k1 e1 =>
    split at e
    next b k2 e2 =>
    split at e
    next t1 k3 e3 =>
    split at e
    next t2 k4 e4 =>
    split at e
    next cs k5 e5 =>
    split at e
    · next q hq =>
      cases w : (zsubR (2627, 2627, i1, i2) q && (Nat.ble i1 i2 && (Nat.ble 1 i1 && (Nat.ble i2 1099511627775 && (Nat.beq (T.2.1 2627) 1 && (Nat.beq (T.2.2.1 2627) 1 && (Nat.beq T.1 2628 && zcerts s.2.2.1 cs [zpl a (-(Int.ofNat i1)), zsb (zc (Int.ofNat i2 + 1)) b]))))))) with
      | false => rw [w] at e; cases e
      | true =>
        rw [w, cond_true] at e
        obtain ⟨w1, w2⟩ := andB w
        obtain ⟨w2, w3⟩ := andB w2
        obtain ⟨w3, w4⟩ := andB w3
        obtain ⟨w4, w5⟩ := andB w4
        obtain ⟨w5, w6⟩ := andB w5
        obtain ⟨w6, w7⟩ := andB w6
        obtain ⟨w7, w8⟩ := andB w7
        have w2 := bleN w2
        have w3 := bleN w3
        have w4 := bleN w4
        have w5 := beqN w5
        have w6 := beqN w6
        have w7 := beqN w7
        have w8 := zcerts_of B.1 w8
        have g1 := w8 _ List.mem_cons_self
        have g2 := w8 _ (List.mem_cons_of_mem _ List.mem_cons_self)
        rw [zpl_v] at g1
        rw [zsb_v, zc_v] at g2
        have o1 : Int.ofNat i1 = (i1 : Int) := rfl
        have o2 : Int.ofNat i2 = (i2 : Int) := rfl
        have z0 : zv ρ (zc 2627) = 2627 := zc_v ρ 2627
        have bK : zv ρ b ≤ 1099511627776 := by omega
        have hw : BlkW h (hblk h 2627 fun q => if (zv ρ a).toNat ≤ q ∧ q < (zv ρ b).toNat then fB md h ρ t1 t2 (q : Int) else (h.2 2627).2.2 q) 2627 (zv ρ a) (zv ρ b) (fB md h ρ t1 t2) := fun r' i' => gz_gen (by omega) bK r' i'
        have iw : ∀ i, zv ρ a ≤ i → i < zv ρ b → inZ (2627, 2627, i1, i2) 2627 i := fun i j1 j2 => ⟨⟨by show ((2627 : Nat) : Int) ≤ 2627; decide, Or.inr (by show (2627 : Int) ≤ ((2627 : Nat) : Int); decide)⟩, Or.inr ⟨by show (i1 : Int) ≤ i; omega, by show i ≤ (i2 : Int); omega⟩⟩
        have F1 : Frm [(2627, 2627, i1, i2)] h (hblk h 2627 fun q => if (zv ρ a).toNat ≤ q ∧ q < (zv ρ b).toNat then fB md h ρ t1 t2 (q : Int) else (h.2 2627).2.2 q) := Frm.blk hw List.mem_cons_self iw
        have F2 : Frm M h (hblk h 2627 fun q => if (zv ρ a).toNat ≤ q ∧ q < (zv ρ b).toNat then fB md h ρ t1 t2 (q : Int) else (h.2 2627).2.2 q) := Frm.blk hw (zget_mem hq) fun i j1 j2 => zsubR_of w1 (iw i j1 j2)
        obtain ⟨s1, s2⟩ := g.1.2 2627 (by omega) (by omega)
        have s2 := s2 (by omega)
        have hlt : 2627 < h.1 := by have := g.1.1; omega
        have hF : ∀ j, j < (h.2 2627).2.1 → (if (zv ρ a).toNat ≤ j ∧ j < (zv ρ b).toNat then fB md h ρ t1 t2 (j : Int) else (h.2 2627).2.2 j) = (h.2 2627).2.2 j := fun j hj => if_neg (by omega)
        split at e
        · next V k6 e6 =>
          rw [← z0] at hw iw
          have hV := wrV2_of gk B g hw iw F1 B.2.2.2 e6
          rw [z0] at hw
          split at e
          · next A k7 e7 =>
            have hA := kpG_of hw (by omega) (by omega) bK B.1 B.2.2.1 e7
            split at e
            · cases e
              exact ⟨_, ⟨B.1, B.2.1, hA, hV⟩, rfl, rfl, F2, g.blk (kind_pl tk (by omega)), hlt, s1.trans w5, hF⟩
            · next k8 =>
              split at e
              next c k9 e9 =>
              cases w9 : (Nat.beq md 0 && zcert s.2.2.1 c (zpl (zsb b a) (-1))) with
              | false => rw [w9] at e; cases e
              | true =>
                rw [w9, cond_true] at e
                obtain ⟨y1, y2⟩ := andB w9
                have y1 := beqN y1
                have y2 := zcert_of B.1 y2
                rw [zpl_v, zsb_v] at y2
                subst y1
                cases e
                refine ⟨_, ⟨B.1, B.2.1, List.forall_mem_cons.mpr ⟨?_, hA⟩, hV⟩, rfl, rfl, F2, g.blk (kind_pl tk (by omega)), hlt, s1.trans w5, hF⟩
                show gz _ (zv ρ (zc 2627)) (zv ρ a) = zv ρ t1
                rw [z0, hw, if_pos ⟨rfl, by omega, by omega⟩]
                rfl
            · next b1 b2 k8 =>
              cases w9 : (!(Nat.beq md 1) && ([a, b, t1].all (fun t => !(zoc (fun u => zmem u [b1, b2]) t)) && !(Nat.beq b1 b2))) with
              | false => rw [w9] at e; cases e
              | true =>
                rw [w9, cond_true] at e
                obtain ⟨u1, u2⟩ := andB w9
                obtain ⟨u2, u3⟩ := andB u2
                have u1 := notB u1
                have u2 := List.all_eq_true.mp u2
                cases e
                refine ⟨_, ⟨B.1, B.2.1, hA, List.forall_mem_cons.mpr ⟨?_, hV⟩⟩, rfl, rfl, F2, g.blk (kind_pl tk (by omega)), hlt, s1.trans w5, hF⟩
                intro β hβ he hg x hx
                have ev : ∀ t ∈ [a, b, t1], zv β t = zv ρ t := fun t ht => zoc_no (notB (u2 t ht)) hβ
                have ea := ev a (by simp)
                have eb := ev b (by simp)
                have f1 := ev t1 (by simp)
                have q1 := (he _ List.mem_cons_self).2
                have g1' := hg _ List.mem_cons_self
                have g2' := hg _ (List.mem_cons_of_mem _ List.mem_cons_self)
                rw [zsb_v, zx_v, ea] at g1'
                rw [zpl_v, zsb_v, zx_v, eb] at g2'
                have z0' : zv β (zc 2627) = 2627 := zc_v β 2627
                replace q1 : gz _ (zv β (zc 2627)) (zv β (zx b1)) = zv β (zx b2) := q1
                rw [z0', hw, if_pos ⟨rfl, by rw [zx_v]; omega, by rw [zx_v]; omega⟩] at q1
                exact onF_fB u1 f1 q1 x hx
            · cases e
          · cases e
        · cases e
    · cases e
  · cases e
/-- what lies at places that hang on an index -/
abbrev ZRc : Type := Nat × ZR × ZT × ZT
def rcX (h : MH) (β0 : Nat → Int) : List ZRc → Nat → Int
  | [], v => β0 v
  | q :: l, v => if v = q.1 then gz h (zv β0 q.2.2.1) (zv β0 q.2.2.2) else rcX h β0 l v
theorem rcX_eq {h : MH} {β0 β : Nat → Int} {y : Nat} : ∀ {es : List ZRc}, (∀ q ∈ es, gz h (zv β0 q.2.2.1) (zv β0 q.2.2.2) = β q.1) → ∀ {v : Nat}, v ≠ y → (zmem v (es.map fun q => q.1) = false → β0 v = β v) → rcX h β0 es v = β v
  | [], _, v, _, k => k rfl
  | q :: l, a, v, ny, k => by
    show (if v = q.1 then gz h (zv β0 q.2.2.1) (zv β0 q.2.2.2) else rcX h β0 l v) = β v
    by_cases e : v = q.1
    · rw [if_pos e, a q List.mem_cons_self, e]
    · rw [if_neg e]
      refine rcX_eq (fun x hx => a x (List.mem_cons_of_mem _ hx)) ny fun z => k ?_
      show (Nat.beq q.1 v || zmem v (l.map fun q => q.1)) = false
      rw [z, Bool.or_false]
      cases w : Nat.beq q.1 v with
      | false => rfl
      | true => exact absurd (beqN w).symm e
def rcS (h : MH) (ρ : Nat → Int) (b0 b1 : Nat) (es : List ZRc) (c t1 t2 : ZT) (i z : Int) : Int := if 0 ≤ zv (rcX h (fun v => if v = b0 then i else if v = b1 then z else ρ v) es) c then zv (rcX h (fun v => if v = b0 then i else if v = b1 then z else ρ v) es) t1 else zv (rcX h (fun v => if v = b0 then i else if v = b1 then z else ρ v) es) t2
def rcG (h : MH) (ρ : Nat → Int) (b0 b1 : Nat) (es : List ZRc) (c t1 t2 : ZT) (b z0 : Int) : Nat → Int
  | 0 => z0
  | n + 1 => rcS h ρ b0 b1 es c t1 t2 (b - (n : Int) - 1) (rcG h ρ b0 b1 es c t1 t2 b z0 n)
def rcF (h : MH) (ρ : Nat → Int) (b0 b1 : Nat) (es : List ZRc) (c t1 t2 : ZT) (b z0 : Int) (i : Int) : Int := rcG h ρ b0 b1 es c t1 t2 b z0 (b - i).toNat
theorem rcF_b {h : MH} {ρ : Nat → Int} {b0 b1 : Nat} {es : List ZRc} {c t1 t2 : ZT} {b z0 : Int} : rcF h ρ b0 b1 es c t1 t2 b z0 b = z0 := by
  unfold rcF
  rw [show (b - b).toNat = 0 by omega]
  rfl
theorem rcF_s {h : MH} {ρ : Nat → Int} {b0 b1 : Nat} {es : List ZRc} {c t1 t2 : ZT} {b z0 i : Int} (hi : i < b) : rcF h ρ b0 b1 es c t1 t2 b z0 i = rcS h ρ b0 b1 es c t1 t2 i (rcF h ρ b0 b1 es c t1 t2 b z0 (i + 1)) := by
  unfold rcF
  rw [show (b - i).toNat = (b - (i + 1)).toNat + 1 by omega]
  show rcS h ρ b0 b1 es c t1 t2 (b - (((b - (i + 1)).toNat : Nat) : Int) - 1) _ = _
  rw [show b - (((b - (i + 1)).toNat : Nat) : Int) - 1 = i by omega]
def rdRc : Nat → List Nat → List ZRc × List Nat
  | 0, k => ([], k)
  | n + 1, k => match k with
    | x :: k => (match rdR k with
      | (m, k) => (match rdT k with
        | (r, k) => (match rdT k with
          | (i, k) => (match rdRc n k with
            | (l, k) => ((x, m, r, i) :: l, k)))))
    | [] => ([], [])
def rcE (w : ZR) (b0 b1 y : Nat) (es : List ZRc) : List ZE := (w, zc 2627, zx b0, zx y) :: (w, zc 2627, zpl (zx b0) 1, zx b1) :: es.map fun q => (q.2.1, q.2.2.1, q.2.2.2, zx q.1)
def rcC (w : ZR) (b0 b1 y : Nat) (es : List ZRc) (a b g t : ZT) : ZC := (0, b0 :: b1 :: y :: es.map (fun q => q.1), rcE w b0 b1 y es, [zsb (zx b0) a, zpl (zsb b (zx b0)) (-1), g], [zsb (zx y) t, zsb t (zx y)])
def rcB (w : ZR) (b0 y : Nat) (b t0 : ZT) : ZC := (0, [b0, y], [(w, zc 2627, zx b0, zx y)], [zsb (zx b0) b, zsb b (zx b0)], [zsb (zx y) t0, zsb t0 (zx y)])
/-- a row that the machine doesn't have is filled from its end b down to a: at b a number, at i what follows from what lies at i + 1 and at other places -/
def xRec (G : ZG) (T : ZTab) (M : List ZR) (s : ZSt) (k : List Nat) : Option (ZSt × List Nat) := match k with
  | m :: i1 :: i2 :: b0 :: b1 :: y :: ne :: k => (match rdRc ne k with
    | (es, k) => (match rdTs 6 k with
      | ([a, b, t0, c, t1, t2], k) => (match rdCs 3 k with
        | (cs, k) => (match zget M m with
          | some q => bif zsubR (2627, 2627, i1, i2) q && (Nat.ble i1 i2 && (Nat.ble 1 i1 && (Nat.ble i2 1099511627775 && (Nat.beq (T.2.1 2627) 1 && (Nat.beq (T.2.2.1 2627) 1 && (Nat.beq T.1 2628 && (zcerts s.2.2.1 cs [zpl a (-(Int.ofNat i1)), zsb (zc (Int.ofNat i2)) b, zsb b a] && (!(Nat.beq b0 y) && ([a, b, t0].all (fun t => !(zoc (fun u => zmem u (b0 :: b1 :: y :: es.map (fun q => q.1))) t)) && ([c, t1, t2].all (fun t => !(zoc (Nat.beq y) t)) && es.all (fun q => zdis q.2.1 (2627, 2627, i1, i2) && (!(zoc (fun u => zmem u (y :: es.map (fun q => q.1))) q.2.2.1) && !(zoc (fun u => zmem u (y :: es.map (fun q => q.1))) q.2.2.2))))))))))))) then (match kpG s.2.2.1 i1 i2 s.2.2.2.2.1 k with
            | some (A, k) => some ((s.1, s.2.1, (s.2.2.1, s.2.2.2.1, A, rcC (2627, 2627, i1, i2) b0 b1 y es a b c t1 :: rcC (2627, 2627, i1, i2) b0 b1 y es a b (zpl (zsm (-1) c) (-1)) t2 :: rcB (2627, 2627, i1, i2) b0 y b t0 :: s.2.2.2.2.2.filter fun d => zkpC G [(2627, 2627, i1, i2)] T.1 d)), k)
            | none => none) else none
          | none => none))
      | _ => none))
  | _ => none
theorem xRec_of {G : ZG} (gk : GOk G) {T : ZTab} (tk : TabOk T) {M : List ZR} {s s' : ZSt} {ρ : Nat → Int} {h : MH} {k k' : List Nat} (B : Kn G ρ h s.2.2) (g : StrZ T h) (e : xRec G T M s k = some (s', k')) : ∃ F : Nat → Int, Kn G ρ (hblk h 2627 F) s'.2.2 ∧ s'.1 = s.1 ∧ s'.2.1 = s.2.1 ∧ Frm M h (hblk h 2627 F) ∧ StrZ T (hblk h 2627 F) ∧ 2627 < h.1 ∧ (h.2 2627).1 = 1 ∧ ∀ j, j < (h.2 2627).2.1 → F j = (h.2 2627).2.2 j := by
  unfold xRec at e
  split at e
  · next m i1 i2 b0 b1 y ne k0 =>
    split at e
    next es k1 e1 =>
    split at e
    · next a b t0 c t1 t2 k2 e2 =>
      split at e
      next cs k3 e3 =>
      split at e
      · next q hq =>
        cases w : (zsubR (2627, 2627, i1, i2) q && (Nat.ble i1 i2 && (Nat.ble 1 i1 && (Nat.ble i2 1099511627775 && (Nat.beq (T.2.1 2627) 1 && (Nat.beq (T.2.2.1 2627) 1 && (Nat.beq T.1 2628 && (zcerts s.2.2.1 cs [zpl a (-(Int.ofNat i1)), zsb (zc (Int.ofNat i2)) b, zsb b a] && (!(Nat.beq b0 y) && ([a, b, t0].all (fun t => !(zoc (fun u => zmem u (b0 :: b1 :: y :: es.map (fun q => q.1))) t)) && ([c, t1, t2].all (fun t => !(zoc (Nat.beq y) t)) && es.all (fun q => zdis q.2.1 (2627, 2627, i1, i2) && (!(zoc (fun u => zmem u (y :: es.map (fun q => q.1))) q.2.2.1) && !(zoc (fun u => zmem u (y :: es.map (fun q => q.1))) q.2.2.2)))))))))))))) with
        | false => rw [w] at e; cases e
        | true =>
          rw [w, cond_true] at e
          obtain ⟨w1, w2⟩ := andB w
          obtain ⟨w2, w3⟩ := andB w2
          obtain ⟨w3, w4⟩ := andB w3
          obtain ⟨w4, w5⟩ := andB w4
          obtain ⟨w5, w6⟩ := andB w5
          obtain ⟨w6, w7⟩ := andB w6
          obtain ⟨w7, w8⟩ := andB w7
          obtain ⟨w8, w9⟩ := andB w8
          obtain ⟨w9, w10⟩ := andB w9
          obtain ⟨w10, w11⟩ := andB w10
          obtain ⟨w11, w12⟩ := andB w11
          have w2 := bleN w2
          have w3 := bleN w3
          have w4 := bleN w4
          have w5 := beqN w5
          have w6 := beqN w6
          have w7 := beqN w7
          have w8 := zcerts_of B.1 w8
          have w9 : b0 ≠ y := beqN_no (notB w9)
          have w10 := List.all_eq_true.mp w10
          have w11 := List.all_eq_true.mp w11
          have w12 := List.all_eq_true.mp w12
          have g1 := w8 _ List.mem_cons_self
          have g2 := w8 _ (List.mem_cons_of_mem _ List.mem_cons_self)
          have g3 := w8 _ (List.mem_cons_of_mem _ (List.mem_cons_of_mem _ List.mem_cons_self))
          rw [zpl_v] at g1
          rw [zsb_v, zc_v] at g2
          rw [zsb_v] at g3
          have o1 : Int.ofNat i1 = (i1 : Int) := rfl
          have o2 : Int.ofNat i2 = (i2 : Int) := rfl
          have bK : zv ρ b + 1 ≤ 1099511627776 := by omega
          let f : Int → Int := rcF h ρ b0 b1 es c t1 t2 (zv ρ b) (zv ρ t0)
          have hw : BlkW h (hblk h 2627 fun q => if (zv ρ a).toNat ≤ q ∧ q < (zv ρ b + 1).toNat then f (q : Int) else (h.2 2627).2.2 q) 2627 (zv ρ a) (zv ρ b + 1) f := fun r' i' => gz_gen (by omega) bK r' i'
          have iw : ∀ i, zv ρ a ≤ i → i < zv ρ b + 1 → inZ (2627, 2627, i1, i2) 2627 i := fun i j1 j2 => ⟨⟨by show ((2627 : Nat) : Int) ≤ 2627; decide, Or.inr (by show (2627 : Int) ≤ ((2627 : Nat) : Int); decide)⟩, Or.inr ⟨by show (i1 : Int) ≤ i; omega, by show i ≤ (i2 : Int); omega⟩⟩
          have F1 : Frm [(2627, 2627, i1, i2)] h (hblk h 2627 fun q => if (zv ρ a).toNat ≤ q ∧ q < (zv ρ b + 1).toNat then f (q : Int) else (h.2 2627).2.2 q) := Frm.blk hw List.mem_cons_self iw
          have F2 : Frm M h (hblk h 2627 fun q => if (zv ρ a).toNat ≤ q ∧ q < (zv ρ b + 1).toNat then f (q : Int) else (h.2 2627).2.2 q) := Frm.blk hw (zget_mem hq) fun i j1 j2 => zsubR_of w1 (iw i j1 j2)
          obtain ⟨s1, s2⟩ := g.1.2 2627 (by omega) (by omega)
          have s2 := s2 (by omega)
          have hlt : 2627 < h.1 := by have := g.1.1; omega
          have hF : ∀ j, j < (h.2 2627).2.1 → (if (zv ρ a).toNat ≤ j ∧ j < (zv ρ b + 1).toNat then f (j : Int) else (h.2 2627).2.2 j) = (h.2 2627).2.2 j := fun j hj => if_neg (by omega)
          -- what a clause of the row finds
          have val : ∀ β : Nat → Int, (∀ v, zmem v (b0 :: b1 :: y :: es.map (fun q => q.1)) = false → β v = ρ v) → (∀ x ∈ rcE (2627, 2627, i1, i2) b0 b1 y es, zE β (hblk h 2627 fun q => if (zv ρ a).toNat ≤ q ∧ q < (zv ρ b + 1).toNat then f (q : Int) else (h.2 2627).2.2 q) x) → zv ρ a ≤ β b0 → β b0 < zv ρ b → β y = if 0 ≤ zv β c then zv β t1 else zv β t2 := by
            intro β hβ he ga gb
            have z0 : zv β (zc 2627) = 2627 := zc_v β 2627
            have y1 := (he _ List.mem_cons_self).2
            have y2 := (he _ (List.mem_cons_of_mem _ List.mem_cons_self)).2
            replace y1 : gz _ (zv β (zc 2627)) (zv β (zx b0)) = zv β (zx y) := y1
            replace y2 : gz _ (zv β (zc 2627)) (zv β (zpl (zx b0) 1)) = zv β (zx b1) := y2
            rw [z0, zx_v, zx_v, hw, if_pos ⟨rfl, by omega, by omega⟩] at y1
            rw [z0, zpl_v, zx_v, zx_v, hw, if_pos ⟨rfl, by omega, by omega⟩] at y2
            have y3 : f (β b0) = rcS h ρ b0 b1 es c t1 t2 (β b0) (f (β b0 + 1)) := rcF_s gb
            rw [y1, y2] at y3
            have a0 : ∀ v, v ≠ y → zmem v (es.map fun q => q.1) = false → (if v = b0 then β b0 else if v = b1 then β b1 else ρ v) = β v := fun v ny nx => by
              by_cases q0 : v = b0
              · rw [if_pos q0, q0]
              · rw [if_neg q0]
                by_cases q1 : v = b1
                · rw [if_pos q1, q1]
                · rw [if_neg q1]
                  refine (hβ v ?_).symm
                  have n : ∀ {p : Nat}, v ≠ p → Nat.beq p v = false := fun {p} np => by
                    cases z : Nat.beq p v with
                    | false => rfl
                    | true => exact absurd (beqN z).symm np
                  show (Nat.beq b0 v || (Nat.beq b1 v || (Nat.beq y v || zmem v (es.map fun q => q.1)))) = false
                  rw [n q0, n q1, n ny, nx]
                  rfl
            have pl : ∀ t, zoc (fun u => zmem u (y :: es.map (fun q => q.1))) t = false → zv (fun v => if v = b0 then β b0 else if v = b1 then β b1 else ρ v) t = zv β t := fun t ht => zoc_no ht fun v hv => a0 v (zmem_ne hv).1 (zmem_ne hv).2
            have ex : ∀ v, v ≠ y → rcX h (fun v => if v = b0 then β b0 else if v = b1 then β b1 else ρ v) es v = β v := fun v ny => rcX_eq (y := y) (fun x hx => by
              obtain ⟨d1, d2⟩ := andB (w12 x hx)
              obtain ⟨d2, d3⟩ := andB d2
              have hx := he _ (List.mem_cons_of_mem _ (List.mem_cons_of_mem _ (List.mem_map.mpr ⟨x, hx, rfl⟩)))
              rw [pl _ (notB d2), pl _ (notB d3)]
              have p := hx.2
              replace p : gz _ (zv β x.2.2.1) (zv β x.2.2.2) = zv β (zx x.1) := p
              rw [hw, if_neg fun z => zdis_of d1 hx.1 (by show inZ _ (zv β x.2.2.1) (zv β x.2.2.2); rw [z.1]; exact iw _ z.2.1 z.2.2), zx_v] at p
              exact p) ny (a0 v ny)
            have et : ∀ t ∈ [c, t1, t2], zv (rcX h (fun v => if v = b0 then β b0 else if v = b1 then β b1 else ρ v) es) t = zv β t := fun t ht => zoc_no (notB (w11 t ht)) fun v hv => ex v fun z => by rw [z, Nat.beq_refl] at hv; cases hv
            unfold rcS at y3
            rw [et c (by simp), et t1 (by simp), et t2 (by simp)] at y3
            exact y3
          have cl : ∀ {gg t : ZT}, (∀ β : Nat → Int, 0 ≤ zv β gg → (if 0 ≤ zv β c then zv β t1 else zv β t2) = zv β t) → zCl G ρ (hblk h 2627 fun q => if (zv ρ a).toNat ≤ q ∧ q < (zv ρ b + 1).toNat then f (q : Int) else (h.2 2627).2.2 q) (rcC (2627, 2627, i1, i2) b0 b1 y es a b gg t) := fun {gg t} kk => by
            intro β hβ he hg x hx
            have ea : zv β a = zv ρ a := zoc_no (notB (w10 a (by simp))) hβ
            have eb : zv β b = zv ρ b := zoc_no (notB (w10 b (by simp))) hβ
            have p1 := hg _ List.mem_cons_self
            have p2 := hg _ (List.mem_cons_of_mem _ List.mem_cons_self)
            have p3 := hg _ (List.mem_cons_of_mem _ (List.mem_cons_of_mem _ List.mem_cons_self))
            rw [zsb_v, zx_v, ea] at p1
            rw [zpl_v, zsb_v, zx_v, eb] at p2
            have v := val β hβ he (by omega) (by omega)
            rw [kk β p3] at v
            revert x
            exact all2 (by rw [zsb_v, zx_v]; omega) (by rw [zsb_v, zx_v]; omega)
          split at e
          · next A k4 e4 =>
            have hA := kpG_of hw (by omega) (by omega) bK B.1 B.2.2.1 e4
            cases e
            refine ⟨_, ⟨B.1, B.2.1, hA, List.forall_mem_cons.mpr ⟨cl fun β p => if_pos p, List.forall_mem_cons.mpr ⟨cl fun β p => if_neg (by rw [zpl_v, zsm_v] at p; omega), List.forall_mem_cons.mpr ⟨?_, fun d hd => ?_⟩⟩⟩⟩, rfl, rfl, F2, g.blk (kind_pl tk (by omega)), hlt, s1.trans w5, hF⟩
            · intro β hβ he hg x hx
              have sub : ∀ v, zmem v (b0 :: b1 :: y :: es.map (fun q => q.1)) = false → zmem v [b0, y] = false := fun v hv => by
                have n1 := (zmem_ne hv).1
                have n2 := (zmem_ne (zmem_ne (zmem_ne hv).2).2).1
                have n : ∀ {p : Nat}, v ≠ p → Nat.beq p v = false := fun {p} np => by
                  cases z : Nat.beq p v with
                  | false => rfl
                  | true => exact absurd (beqN z).symm np
                show (Nat.beq b0 v || (Nat.beq y v || false)) = false
                rw [n n1, n n2]
                rfl
              have et : ∀ t ∈ [a, b, t0], zv β t = zv ρ t := fun t ht => zoc_no (notB (w10 t ht)) fun v hv => hβ v (sub v hv)
              have eb := et b (by simp)
              have e0 := et t0 (by simp)
              have p1 := hg _ List.mem_cons_self
              have p2 := hg _ (List.mem_cons_of_mem _ List.mem_cons_self)
              rw [zsb_v, zx_v, eb] at p1 p2
              have y1 := (he _ List.mem_cons_self).2
              have z0 : zv β (zc 2627) = 2627 := zc_v β 2627
              replace y1 : gz _ (zv β (zc 2627)) (zv β (zx b0)) = zv β (zx y) := y1
              rw [z0, zx_v, zx_v, hw, if_pos ⟨rfl, by omega, by omega⟩, show β b0 = zv ρ b by omega] at y1
              replace y1 : rcF h ρ b0 b1 es c t1 t2 (zv ρ b) (zv ρ t0) (zv ρ b) = β y := y1
              rw [rcF_b] at y1
              revert x
              exact all2 (by rw [zsb_v, zx_v, e0]; omega) (by rw [zsb_v, zx_v, e0]; omega)
            · obtain ⟨m1, m2⟩ := List.mem_filter.mp hd
              exact zCl_kp gk F1 g.1.1 m2 (B.2.2.2 d m1)
          · cases e
      · cases e
    · cases e
  · cases e
theorem m_gh {K : mK} {Qr : MO → MH → Prop} {mc ms pc : Nat} {L : List (Nat × MV)} {S : List MV} {h : MH} {c : Nat} {F : Nat → Int} (hc : 4 ≤ c) (hlt : c < h.1) (hk : (h.2 c).1 = 1) (same : ∀ j, j < (h.2 c).2.1 → F j = (h.2 c).2.2 j) (k : MW K Qr mc ms pc L S (hblk h c F)) : MW K Qr mc ms pc L S h := by
  intro D x s0 p l e R s m args below meth cd H locs cells slots MC MS Q ls cx F' P SS hl oL oS hc' hs
  refine k D x s0 p l e R s m args below meth cd H locs cells slots MC MS Q ls cx F' ?_ SS hl oL oS hc' hs
  refine P.set hc hlt (c := ((h.2 c).1, (h.2 c).2.1, F)) ?_ ?_ rfl fun q _ => rfl
  · have ok := P.2.2.2.1 _ hlt
    unfold mokC at ok ⊢
    rw [if_pos (by omega)] at ok
    rw [if_pos (by show (h.2 c).1 < 16; omega)]
    intro j hj
    have hj : j < (h.2 c).2.1 := hj
    show mokE (h.2 c).1 (F j)
    rw [same j hj]
    exact ok j hj
  · have hA := P.2.2.2.2.2 c hc hlt
    unfold mAt at hA ⊢
    rw [if_pos (by omega)] at hA
    rw [if_pos (by show (h.2 c).1 < 16; omega)]
    obtain ⟨cA, e1, e2, e3⟩ := hA
    refine ⟨cA, e1.trans (congrArg some ?_), e2, e3⟩
    rw [mvp_l hk, mvp_l (c := ((h.2 c).1, (h.2 c).2.1, F)) hk, vp_cell_l, vp_cell_l]
    unfold arrV
    congr 1
    congr 1
    funext j
    show Value.long (Int64.ofInt ((h.2 c).2.2 j.val)) = Value.long (Int64.ofInt (F j.val))
    rw [same j.val j.isLt]
