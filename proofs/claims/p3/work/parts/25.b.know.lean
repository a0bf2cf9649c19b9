/-! what is known of a heap: its fixed shape, what may have changed, atoms, clauses -/
/-- what lies at a place; at two places behind all there may be: the kind of the cell (1 more; 0: it isn't there), its length -/
def gz (h : MH) (r i : Int) : Int := if 0 ≤ r ∧ 0 ≤ i then (if i < 1099511627776 then (h.2 r.toNat).2.2 i.toNat else if i = 1099511627776 then (if r.toNat < h.1 then ((h.2 r.toNat).1 : Int) + 1 else 0) else if i = 1099511627777 then ((h.2 r.toNat).2.1 : Int) else if i = 1099511627778 ∧ r = 2628 then (h.1 : Int) else 0) else 0
/-- one place tells how many cells there are -/
theorem gz_sz {h : MH} : gz h 2628 1099511627778 = (h.1 : Int) := by
  unfold gz
  rw [if_pos (by decide), if_neg (by decide), if_neg (by decide), if_neg (by decide), if_pos ⟨rfl, rfl⟩]
theorem gz_at {h : MH} {r i : Int} (r0 : 0 ≤ r) (i0 : 0 ≤ i) (iK : i < 1099511627776) : gz h r i = (h.2 r.toNat).2.2 i.toNat := by
  unfold gz
  rw [if_pos ⟨r0, i0⟩, if_pos iK]
theorem gz_hi {h h2 : MH} (e : h2.1 = h.1) (same : ∀ c, (h2.2 c).1 = (h.2 c).1 ∧ (h2.2 c).2.1 = (h.2 c).2.1) {r i : Int} (k : ¬ i < 1099511627776) : gz h2 r i = gz h r i := by
  unfold gz
  by_cases q : 0 ≤ r ∧ 0 ≤ i
  · rw [if_pos q, if_pos q, if_neg k, if_neg k, e, (same _).1, (same _).2]
  · rw [if_neg q, if_neg q]
theorem gz_neg {h : MH} {r i : Int} (q : ¬ (0 ≤ r ∧ 0 ≤ i)) : gz h r i = 0 := if_neg q
theorem gz_kd {h : MH} {r : Int} (p : 1 ≤ gz h r 1099511627776) : 0 ≤ r ∧ r.toNat < h.1 ∧ gz h r 1099511627776 = ((h.2 r.toNat).1 : Int) + 1 := by
  unfold gz at p ⊢
  by_cases q : 0 ≤ r ∧ (0 : Int) ≤ 1099511627776
  · rw [if_pos q, if_neg (by decide), if_pos rfl] at p ⊢
    by_cases w : r.toNat < h.1
    · rw [if_pos w]
      exact ⟨q.1, w, rfl⟩
    · rw [if_neg w] at p
      omega
  · rw [if_neg q] at p
    omega
theorem gz_ln {h : MH} {r : Int} (r0 : 0 ≤ r) : gz h r 1099511627777 = ((h.2 r.toNat).2.1 : Int) := by
  unfold gz
  rw [if_pos ⟨r0, by decide⟩, if_neg (by decide), if_neg (by decide), if_pos rfl]
theorem hset_same (h : MH) (a j : Nat) (v : Int) (c : Nat) : ((hset h a j v).2 c).1 = (h.2 c).1 ∧ ((hset h a j v).2 c).2.1 = (h.2 c).2.1 := by
  unfold hset
  show ((if c = a then _ else _ : MC)).1 = _ ∧ ((if c = a then _ else _ : MC)).2.1 = _
  by_cases e : c = a
  · rw [if_pos e, e]; exact ⟨rfl, rfl⟩
  · rw [if_neg e]; exact ⟨rfl, rfl⟩
theorem gz_set {h : MH} {r i v : Int} (r0 : 0 ≤ r) (i0 : 0 ≤ i) (iK : i < 1099511627776) (r' i' : Int) : gz (hset h r.toNat i.toNat v) r' i' = if r' = r ∧ i' = i then v else gz h r' i' := by
  by_cases q : 0 ≤ r' ∧ 0 ≤ i'
  · by_cases k : i' < 1099511627776
    · rw [gz_at q.1 q.2 k, gz_at q.1 q.2 k]
      unfold hset
      show ((if r'.toNat = r.toNat then _ else _ : MC)).2.2 i'.toNat = _
      by_cases e : r' = r
      · rw [if_pos (by rw [e])]
        show (if i'.toNat = i.toNat then v else _) = _
        by_cases e2 : i' = i
        · rw [if_pos (by rw [e2]), if_pos ⟨e, e2⟩]
        · rw [if_neg (by omega), if_neg (fun z => e2 z.2), e]
      · rw [if_neg (by omega), if_neg (fun z => e z.1)]
    · rw [if_neg fun z => k (by rw [z.2]; exact iK)]
      exact gz_hi (h := h) (h2 := hset h r.toNat i.toNat v) rfl (fun c => hset_same h r.toNat i.toNat v c) k
  · rw [gz_neg q, if_neg (fun z => q ⟨by omega, by omega⟩), gz_neg q]
/-- places: cells from, to; fields or indices from, to (any, if from is behind to) -/
abbrev ZR : Type := Nat × Nat × Nat × Nat
def inZ (m : ZR) (r i : Int) : Prop := ((m.1 : Int) ≤ r ∧ (m.2.1 = 0 ∨ r ≤ (m.2.1 : Int))) ∧ (m.2.2.2 < m.2.2.1 ∨ ((m.2.2.1 : Int) ≤ i ∧ i ≤ (m.2.2.2 : Int)))
def zdis (a b : ZR) : Bool := (Nat.blt 0 a.2.1 && Nat.blt a.2.1 b.1) || ((Nat.blt 0 b.2.1 && Nat.blt b.2.1 a.1) || (Nat.ble a.2.2.1 a.2.2.2 && (Nat.ble b.2.2.1 b.2.2.2 && (Nat.blt a.2.2.2 b.2.2.1 || Nat.blt b.2.2.2 a.2.2.1))))
theorem bltN {a b : Nat} (h : Nat.blt a b = true) : a < b := Nat.le_of_ble_eq_true h
theorem bleN {a b : Nat} (h : Nat.ble a b = true) : a ≤ b := Nat.le_of_ble_eq_true h
theorem zdis_of {a b : ZR} (h : zdis a b = true) {r i : Int} (ha : inZ a r i) : ¬ inZ b r i := fun hb => by
  unfold zdis at h
  unfold inZ at ha hb
  simp only [Bool.or_eq_true, Bool.and_eq_true] at h
  rcases h with ⟨h0, h⟩ | ⟨h0, h⟩ | ⟨h1, h2, h | h⟩
  · have := bltN h; have := bltN h0; omega
  · have := bltN h; have := bltN h0; omega
  · have := bltN h; have := bleN h1; have := bleN h2; omega
  · have := bltN h; have := bleN h1; have := bleN h2; omega
def zsubR (a b : ZR) : Bool := Nat.ble b.1 a.1 && ((Nat.beq b.2.1 0 || (Nat.blt 0 a.2.1 && Nat.ble a.2.1 b.2.1)) && (Nat.blt b.2.2.2 b.2.2.1 || (Nat.ble a.2.2.1 a.2.2.2 && (Nat.ble b.2.2.1 a.2.2.1 && Nat.ble a.2.2.2 b.2.2.2))))
theorem zsubR_of {a b : ZR} (h : zsubR a b = true) {r i : Int} (ha : inZ a r i) : inZ b r i := by
  unfold zsubR at h
  unfold inZ at ha ⊢
  simp only [Bool.or_eq_true, Bool.and_eq_true] at h
  obtain ⟨h1, h2, h3⟩ := h
  have h1 := bleN h1
  refine ⟨⟨by omega, ?_⟩, ?_⟩
  · rcases h2 with h2 | ⟨h4, h2⟩
    · exact Or.inl (Nat.eq_of_beq_eq_true h2)
    · have := bltN h4; have := bleN h2; omega
  · rcases h3 with h | ⟨h3, h4, h5⟩
    · have := bltN h; omega
    · have := bleN h3; have := bleN h4; have := bleN h5; omega
/-- the shape of the heap: how many cells are fixed; of each its kind, its length, the references in its fields, where its rows begin and how many -/
abbrev ZTab : Type := Nat × (Nat → Nat) × (Nat → Nat) × (Nat → Nat → Nat) × (Nat → Nat × Nat)
/-- rows of cells lie one behind the other; those of Bigs with their numbers between -/
def zst (T : ZTab) (c : Nat) : Nat := bif Nat.beq (T.2.1 c) 8 then 2 else 1
def StrZ (T : ZTab) (h : MH) : Prop := (T.1 ≤ h.1 ∧ ∀ c, 1 ≤ c → c < T.1 → (h.2 c).1 = T.2.1 c ∧ ((h.2 c).1 < 16 → (h.2 c).2.1 = T.2.2.1 c)) ∧ (∀ c j, T.2.2.2.1 c j ≠ 0 → (h.2 c).2.2 j = (T.2.2.2.1 c j : Int)) ∧ ∀ c j, j < (T.2.2.2.2 c).2 → (h.2 c).2.2 j = ((T.2.2.2.2 c).1 : Int) + (zst T c : Int) * (j : Int)
def TabOk (T : ZTab) : Prop := (∀ c j, T.2.2.2.1 c j ≠ 0 → c < T.1 ∧ 1 ≤ c ∧ 16 ≤ T.2.1 c ∧ (T.2.1 c = 17 → j = 0)) ∧ ∀ c j, j < (T.2.2.2.2 c).2 → c < T.1 ∧ 1 ≤ c ∧ (6 ≤ T.2.1 c ∧ T.2.1 c < 16)
/-- what may have changed; what is made new counts as changed -/
def Frm (M : List ZR) (h0 h : MH) : Prop := h0.1 ≤ h.1 ∧ (∀ c, c < h0.1 → (h.2 c).1 = (h0.2 c).1 ∧ (h.2 c).2.1 = (h0.2 c).2.1) ∧ ∀ r i : Int, (∀ m ∈ M, ¬ inZ m r i) → gz h r i = gz h0 r i
theorem Frm.refl (M : List ZR) (h : MH) : Frm M h h := ⟨Nat.le_refl _, fun _ _ => ⟨rfl, rfl⟩, fun _ _ _ => rfl⟩
theorem Frm.trans {M : List ZR} {h0 h1 h2 : MH} (a : Frm M h0 h1) (b : Frm M h1 h2) : Frm M h0 h2 :=
  ⟨Nat.le_trans a.1 b.1, fun c q => ⟨(b.2.1 c (Nat.lt_of_lt_of_le q a.1)).1.trans (a.2.1 c q).1, (b.2.1 c (Nat.lt_of_lt_of_le q a.1)).2.trans (a.2.1 c q).2⟩, fun r i n => (b.2.2 r i n).trans (a.2.2 r i n)⟩
def zsubM (A M : List ZR) : Bool := A.all fun a => M.any fun m => zsubR a m
theorem Frm.mono {A M : List ZR} {h0 h1 : MH} (a : Frm A h0 h1) (s : zsubM A M = true) : Frm M h0 h1 :=
  ⟨a.1, a.2.1, fun r i n => a.2.2 r i fun m hm z => by
    obtain ⟨m', h1, h2⟩ := List.any_eq_true.mp (List.all_eq_true.mp s m hm)
    exact n m' h1 (zsubR_of h2 z)⟩
theorem Frm.write {M : List ZR} {h : MH} {r i v : Int} (r0 : 0 ≤ r) (i0 : 0 ≤ i) (iK : i < 1099511627776) {m : ZR} (hm : m ∈ M) (k : inZ m r i) : Frm M h (hset h r.toNat i.toNat v) :=
  ⟨Nat.le_refl _, fun c _ => hset_same h _ _ _ c, fun r' i' n => by rw [gz_set r0 i0 iK, if_neg fun z => n m hm (by rw [z.1, z.2]; exact k)]⟩
theorem StrZ.write {T : ZTab} {h : MH} (g : StrZ T h) {r i v : Int} (i0 : 0 ≤ i) (n : T.2.2.2.1 r.toNat i.toNat = 0) (n2 : ¬ i.toNat < (T.2.2.2.2 r.toNat).2) : StrZ T (hset h r.toNat i.toNat v) := by
  have same : ∀ c, ((hset h r.toNat i.toNat v).2 c).1 = (h.2 c).1 ∧ ((hset h r.toNat i.toNat v).2 c).2.1 = (h.2 c).2.1 := fun c => by
    unfold hset
    show ((if c = r.toNat then _ else _ : MC)).1 = _ ∧ ((if c = r.toNat then _ else _ : MC)).2.1 = _
    by_cases e : c = r.toNat
    · rw [if_pos e, e]; exact ⟨rfl, rfl⟩
    · rw [if_neg e]; exact ⟨rfl, rfl⟩
  have at' : ∀ c j, ¬ (c = r.toNat ∧ j = i.toNat) → ((hset h r.toNat i.toNat v).2 c).2.2 j = (h.2 c).2.2 j := fun c j z => by
    unfold hset
    show ((if c = r.toNat then _ else _ : MC)).2.2 j = _
    by_cases e : c = r.toNat
    · rw [if_pos e]
      show (if j = i.toNat then v else _) = _
      rw [if_neg fun q => z ⟨e, q⟩, e]
    · rw [if_neg e]
  refine ⟨⟨g.1.1, fun c c1 c2 => ?_⟩, fun c j q => ?_, fun c j q => ?_⟩
  · rw [(same c).1, (same c).2]
    exact g.1.2 c c1 c2
  · rw [at' c j fun z => q (by rw [z.1, z.2]; exact n)]
    exact g.2.1 c j q
  · rw [at' c j fun z => n2 (by rw [z.1, z.2] at q; exact q)]
    exact g.2.2 c j q
/-- an equation of a clause: where, the cell, the place, what lies there -/
abbrev ZE : Type := ZR × ZT × ZT × ZT
/-- a clause: its own variables, equations, bounds, what follows -/
abbrev ZB : Type := List Nat × List ZE × List ZT × List ZT
abbrev ZC : Type := Nat × ZB
def zmem (v : Nat) : List Nat → Bool
  | [] => false
  | n :: r => Nat.beq n v || zmem v r
def zE (β : Nat → Int) (h : MH) (e : ZE) : Prop := inZ e.1 (zv β e.2.1) (zv β e.2.2.1) ∧ gz h (zv β e.2.1) (zv β e.2.2.1) = zv β e.2.2.2
def zB (ρ : Nat → Int) (h : MH) (b : ZB) : Prop := ∀ β : Nat → Int, (∀ v, zmem v b.1 = false → β v = ρ v) → (∀ e ∈ b.2.1, zE β h e) → (∀ g ∈ b.2.2.1, 0 ≤ zv β g) → ∀ c ∈ b.2.2.2, 0 ≤ zv β c
/-- global clauses: bodies by number; others told as they are, with the places that they speak of -/
abbrev ZG : Type := (Nat → Option ZB) × (Nat → MH → Prop) × (Nat → List ZR)
def zGl (G : ZG) (k : Nat) (h : MH) : Prop := match G.1 k with
  | some b => ∀ ρ, zB ρ h b
  | none => G.2.1 k h
def zCl (G : ZG) (ρ : Nat → Int) (h : MH) (c : ZC) : Prop := match c.1 with
  | 0 => zB ρ h c.2
  | k + 1 => zGl G (k + 1) h
def GOk (G : ZG) : Prop := ∀ k M h0 h, G.1 k = none → Frm M h0 h → ((G.2.2 k).all fun a => M.all fun m => zdis a m) = true → (∀ a ∈ G.2.2 k, a.2.1 < h0.1) → G.2.1 k h0 → G.2.1 k h
/-- is a variable of this kind in it -/
def zocE (f : Nat → Bool) (e : ZE) : Bool := zoc f e.2.1 || (zoc f e.2.2.1 || zoc f e.2.2.2)
def zocB (f : Nat → Bool) (b : ZB) : Bool := b.2.1.any (zocE fun v => f v && !(zmem v b.1)) || (b.2.2.1.any (zoc fun v => f v && !(zmem v b.1)) || b.2.2.2.any (zoc fun v => f v && !(zmem v b.1)))
def zocC (f : Nat → Bool) (c : ZC) : Bool := match c.1 with
  | 0 => zocB f c.2
  | _ + 1 => false
theorem anyF {α : Type} {f : α → Bool} {l : List α} (h : l.any f = false) : ∀ x ∈ l, f x = false := fun x hx => by
  cases e : f x with
  | false => rfl
  | true => rw [List.any_eq_true.mpr ⟨x, hx, e⟩] at h; cases h
theorem orF {x y : Bool} (h : (x || y) = false) : x = false ∧ y = false := Bool.or_eq_false_iff.mp h
theorem zE_cg {β β' : Nat → Int} {h : MH} {e : ZE} (a : zv β' e.2.1 = zv β e.2.1) (b : zv β' e.2.2.1 = zv β e.2.2.1) (c : zv β' e.2.2.2 = zv β e.2.2.2) (k : zE β h e) : zE β' h e := by
  unfold zE
  rw [a, b, c]
  exact k
theorem zB_cg {ρ ρ' : Nat → Int} {h : MH} {b : ZB} {f : Nat → Bool} (n : zocB f b = false) (k : ∀ v, f v = false → ρ' v = ρ v) (B : zB ρ h b) : zB ρ' h b := by
  intro β hb he hg c hc
  obtain ⟨n1, n2⟩ := orF n
  obtain ⟨n2, n3⟩ := orF n2
  -- on f the valuation is taken back, where it is not the clause's own
  let γ : Nat → Int := fun v => if f v = true ∧ zmem v b.1 = false then ρ v else β v
  have q : ∀ v, (f v && !(zmem v b.1)) = false → γ v = β v := fun v hv => by
    show (if f v = true ∧ zmem v b.1 = false then ρ v else β v) = β v
    rw [if_neg fun z => by rw [z.1, z.2] at hv; cases hv]
  have hγ : ∀ v, zmem v b.1 = false → γ v = ρ v := fun v hv => by
    show (if f v = true ∧ zmem v b.1 = false then ρ v else β v) = ρ v
    by_cases z : f v = true
    · rw [if_pos ⟨z, hv⟩]
    · rw [if_neg fun w => z w.1, hb v hv]
      exact k v (by cases w : f v with | false => rfl | true => exact absurd w z)
  have r := B γ hγ (fun e me => by
    have o := anyF n1 e me
    obtain ⟨o1, o2⟩ := orF o
    obtain ⟨o2, o3⟩ := orF o2
    exact zE_cg (zoc_no o1 q) (zoc_no o2 q) (zoc_no o3 q) (he e me)) (fun g mg => by
    rw [zoc_no (anyF n2 g mg) q]
    exact hg g mg) c hc
  rw [zoc_no (anyF n3 c hc) q] at r
  exact r
theorem zCl_cg {G : ZG} {ρ ρ' : Nat → Int} {h : MH} {c : ZC} {f : Nat → Bool} (n : zocC f c = false) (k : ∀ v, f v = false → ρ' v = ρ v) (B : zCl G ρ h c) : zCl G ρ' h c := by
  obtain ⟨m, b⟩ := c
  match m, n, B with
  | 0, n, B => exact zB_cg n k B
  | m + 1, n, B => exact B
/-- kinds and lengths of the cells of the start stay, whatever is written there; a clause is not touched -/
def zdk (n0 : Nat) (e m : ZR) : Bool := zdis e m || (Nat.blt 0 m.2.1 && (Nat.blt m.2.1 n0 && (Nat.ble 1099511627776 e.2.2.1 && (Nat.ble e.2.2.1 e.2.2.2 && Nat.ble e.2.2.2 1099511627777))))
def zkpB (n0 : Nat) (M : List ZR) (b : ZB) : Bool := b.2.1.all fun e => M.all fun m => zdk n0 e.1 m
def zkpC (G : ZG) (M : List ZR) (n0 : Nat) (c : ZC) : Bool := match c.1 with
  | 0 => zkpB n0 M c.2
  | k + 1 => (match G.1 (k + 1) with
    | some b => zkpB n0 M b
    | none => (G.2.2 (k + 1)).all fun a => Nat.blt a.2.1 n0 && M.all fun m => zdis a m)
theorem gz_kl {M : List ZR} {h0 h : MH} (F : Frm M h0 h) {r i : Int} (q : r.toNat < h0.1) (i1 : 1099511627776 ≤ i) (i2 : i ≤ 1099511627777) : gz h r i = gz h0 r i := by
  unfold gz
  by_cases w : 0 ≤ r ∧ 0 ≤ i
  · have n1 : ¬ i < 1099511627776 := by omega
    rw [if_pos w, if_pos w, if_neg n1, if_neg n1]
    by_cases e : i = 1099511627776
    · rw [if_pos e, if_pos e, (F.2.1 _ q).1, if_pos (Nat.lt_of_lt_of_le q F.1), if_pos q]
    · have e2 : i = 1099511627777 := by omega
      rw [if_neg e, if_neg e, if_pos e2, if_pos e2, (F.2.1 _ q).2]
  · rw [if_neg w, if_neg w]
theorem zE_kp {M : List ZR} {h0 h : MH} (F : Frm M h0 h) {n0 : Nat} (hn : n0 ≤ h0.1) {β : Nat → Int} {e : ZE} (d : (M.all fun m => zdk n0 e.1 m) = true) (k : zE β h e) : zE β h0 e := by
  refine ⟨k.1, Eq.trans ?_ k.2⟩
  by_cases q : ∃ m ∈ M, inZ m (zv β e.2.1) (zv β e.2.2.1)
  · obtain ⟨m, hm, iz⟩ := q
    have z := List.all_eq_true.mp d m hm
    unfold zdk at z
    rw [Bool.or_eq_true] at z
    rcases z with z | z
    · exact absurd iz (zdis_of z k.1)
    · obtain ⟨z1, z⟩ := andB z
      obtain ⟨z2, z⟩ := andB z
      obtain ⟨z3, z⟩ := andB z
      obtain ⟨z4, z5⟩ := andB z
      have z1 := bltN z1
      have z2 := bltN z2
      have z3 := bleN z3
      have z4 := bleN z4
      have z5 := bleN z5
      have k1 := k.1
      unfold inZ at iz k1
      refine (gz_kl F ?_ ?_ ?_).symm
      · rcases iz.1.2 with w | w
        · omega
        · omega
      · rcases k1.2 with w | w
        · omega
        · omega
      · rcases k1.2 with w | w
        · omega
        · omega
  · exact (F.2.2 _ _ fun m hm iz => q ⟨m, hm, iz⟩).symm
theorem zB_kp {M : List ZR} {h0 h : MH} (F : Frm M h0 h) {n0 : Nat} (hn : n0 ≤ h0.1) {b : ZB} (kp : zkpB n0 M b = true) {ρ : Nat → Int} (B : zB ρ h0 b) : zB ρ h b := fun β hb he hg => B β hb (fun e me => zE_kp F hn (List.all_eq_true.mp kp e me) (he e me)) hg
theorem zCl_kp {G : ZG} (gk : GOk G) {M : List ZR} {h0 h : MH} (F : Frm M h0 h) {n0 : Nat} (hn : n0 ≤ h0.1) {c : ZC} (kp : zkpC G M n0 c = true) {ρ : Nat → Int} (B : zCl G ρ h0 c) : zCl G ρ h c := by
  obtain ⟨m, b⟩ := c
  match m, kp, B with
  | 0, kp, B => exact zB_kp F hn kp B
  | m + 1, kp, B =>
    replace B : zGl G (m + 1) h0 := B
    show zGl G (m + 1) h
    unfold zGl at B ⊢
    replace kp : (match G.1 (m + 1) with
      | some b => zkpB n0 M b
      | none => (G.2.2 (m + 1)).all fun a => Nat.blt a.2.1 n0 && M.all fun m => zdis a m) = true := kp
    cases e : G.1 (m + 1) with
    | some b =>
      rw [e] at kp B
      exact fun ρ => zB_kp F hn kp (B ρ)
    | none =>
      rw [e] at kp B
      replace kp : ((G.2.2 (m + 1)).all fun a => Nat.blt a.2.1 n0 && M.all fun m => zdis a m) = true := kp
      refine gk (m + 1) M h0 h e F (List.all_eq_true.mpr fun a ha => (andB (List.all_eq_true.mp kp a ha)).2) (fun a ha => Nat.lt_of_lt_of_le (bltN (andB (List.all_eq_true.mp kp a ha)).1) hn) B
/-- what is known: facts, facts of which one holds, atoms (cell, place, what lies there), clauses -/
abbrev ZA : Type := ZT × ZT × ZT
abbrev ZK : Type := List ZT × List (List ZT) × List ZA × List ZC
def zA (ρ : Nat → Int) (h : MH) (a : ZA) : Prop := gz h (zv ρ a.1) (zv ρ a.2.1) = zv ρ a.2.2
def Kn (G : ZG) (ρ : Nat → Int) (h : MH) (K : ZK) : Prop := (∀ f ∈ K.1, 0 ≤ zv ρ f) ∧ (∀ d ∈ K.2.1, ∃ f ∈ d, 0 ≤ zv ρ f) ∧ (∀ a ∈ K.2.2.1, zA ρ h a) ∧ ∀ c ∈ K.2.2.2, zCl G ρ h c
def zocA (f : Nat → Bool) (a : ZA) : Bool := zoc f a.1 || (zoc f a.2.1 || zoc f a.2.2)
def zocK (f : Nat → Bool) (K : ZK) : Bool := K.1.any (zoc f) || (K.2.1.any (fun d => d.any (zoc f)) || (K.2.2.1.any (zocA f) || K.2.2.2.any (zocC f)))
theorem Kn.cg {G : ZG} {ρ ρ' : Nat → Int} {h : MH} {K : ZK} {f : Nat → Bool} (B : Kn G ρ h K) (n : zocK f K = false) (k : ∀ v, f v = false → ρ' v = ρ v) : Kn G ρ' h K := by
  obtain ⟨n1, n2⟩ := orF n
  obtain ⟨n2, n3⟩ := orF n2
  obtain ⟨n3, n4⟩ := orF n3
  refine ⟨fun g hg => ?_, fun d hd => ?_, fun a ha => ?_, fun c hc => zCl_cg (anyF n4 c hc) k (B.2.2.2 c hc)⟩
  · rw [zoc_no (anyF n1 g hg) k]
    exact B.1 g hg
  · obtain ⟨g, m, p⟩ := B.2.1 d hd
    exact ⟨g, m, by rw [zoc_no (anyF (anyF n2 d hd) g m) k]; exact p⟩
  · have o := anyF n3 a ha
    obtain ⟨o1, o2⟩ := orF o
    obtain ⟨o2, o3⟩ := orF o2
    unfold zA
    rw [zoc_no o1 k, zoc_no o2 k, zoc_no o3 k]
    exact B.2.2.1 a ha
theorem Kn.up {G : ZG} {ρ : Nat → Int} {h : MH} {K : ZK} (B : Kn G ρ h K) {n : Nat} (z : Int) (o : zocK (Nat.beq n) K = false) : Kn G (zup ρ n z) h K := B.cg o fun _ hv => zup_no ρ z hv
theorem zoc_up {ρ : Nat → Int} {n : Nat} {z : Int} {t : ZT} (o : zoc (Nat.beq n) t = false) : zv (zup ρ n z) t = zv ρ t := zoc_no o fun _ hv => zup_no ρ z hv
theorem Kn.fact {G : ZG} {ρ : Nat → Int} {h : MH} {K : ZK} (B : Kn G ρ h K) {g : ZT} (k : 0 ≤ zv ρ g) : Kn G ρ h (g :: K.1, K.2) := ⟨List.forall_mem_cons.mpr ⟨k, B.1⟩, B.2⟩
theorem Kn.facts {G : ZG} {ρ : Nat → Int} {h : MH} {K : ZK} (B : Kn G ρ h K) {gs : List ZT} (k : ∀ g ∈ gs, 0 ≤ zv ρ g) : Kn G ρ h (gs ++ K.1, K.2) := ⟨fun f hf => (List.mem_append.mp hf).elim (k f) (B.1 f), B.2⟩
theorem Kn.alt {G : ZG} {ρ : Nat → Int} {h : MH} {K : ZK} (B : Kn G ρ h K) {d : List ZT} (k : ∃ f ∈ d, 0 ≤ zv ρ f) : Kn G ρ h (K.1, d :: K.2.1, K.2.2) := ⟨B.1, List.forall_mem_cons.mpr ⟨k, B.2.1⟩, B.2.2⟩
theorem Kn.atom {G : ZG} {ρ : Nat → Int} {h : MH} {K : ZK} (B : Kn G ρ h K) {a : ZA} (k : zA ρ h a) : Kn G ρ h (K.1, K.2.1, a :: K.2.2.1, K.2.2.2) := ⟨B.1, B.2.1, List.forall_mem_cons.mpr ⟨k, B.2.2.1⟩, B.2.2.2⟩
theorem Kn.cl {G : ZG} {ρ : Nat → Int} {h : MH} {K : ZK} (B : Kn G ρ h K) {c : ZC} (k : zCl G ρ h c) : Kn G ρ h (K.1, K.2.1, K.2.2.1, c :: K.2.2.2) := ⟨B.1, B.2.1, B.2.2.1, List.forall_mem_cons.mpr ⟨k, B.2.2.2⟩⟩
