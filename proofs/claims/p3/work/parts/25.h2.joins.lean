/-! places come to from several sides, the run of a script, what it is worth -/
def zleB : List Nat → List Nat → Bool
  | [], [] => true
  | a :: r, b :: s => Nat.beq a b && zleB r s
  | _, _ => false
theorem zleB_of : ∀ {a b : List Nat}, zleB a b = true → a = b
  | [], [], _ => rfl
  | a :: r, b :: s, h => by
    obtain ⟨h1, h2⟩ := andB h
    rw [beqN h1, zleB_of h2]
  | [], _ :: _, h => by cases h
  | _ :: _, [], h => by cases h
def zReq (a b : ZR) : Bool := Nat.beq a.1 b.1 && (Nat.beq a.2.1 b.2.1 && (Nat.beq a.2.2.1 b.2.2.1 && Nat.beq a.2.2.2 b.2.2.2))
theorem zReq_of {a b : ZR} (h : zReq a b = true) : a = b := by
  obtain ⟨h1, h2⟩ := andB h
  obtain ⟨h2, h3⟩ := andB h2
  obtain ⟨h3, h4⟩ := andB h3
  obtain ⟨a1, a2, a3, a4⟩ := a
  obtain ⟨b1, b2, b3, b4⟩ := b
  have h1 : a1 = b1 := beqN h1
  have h2 : a2 = b2 := beqN h2
  have h3 : a3 = b3 := beqN h3
  have h4 : a4 = b4 := beqN h4
  rw [h1, h2, h3, h4]
def zEeq (a b : ZE) : Bool := zReq a.1 b.1 && (zeq a.2.1 b.2.1 && (zeq a.2.2.1 b.2.2.1 && zeq a.2.2.2 b.2.2.2))
theorem zEeq_of {a b : ZE} (h : zEeq a b = true) : a = b := by
  obtain ⟨h1, h2⟩ := andB h
  obtain ⟨h2, h3⟩ := andB h2
  obtain ⟨h3, h4⟩ := andB h3
  obtain ⟨a1, a2, a3, a4⟩ := a
  obtain ⟨b1, b2, b3, b4⟩ := b
  have h1 : a1 = b1 := zReq_of h1
  have h2 : a2 = b2 := zeq_of h2
  have h3 : a3 = b3 := zeq_of h3
  have h4 : a4 = b4 := zeq_of h4
  rw [h1, h2, h3, h4]
def zall2 {α : Type} (f : α → α → Bool) : List α → List α → Bool
  | [], [] => true
  | a :: r, b :: s => f a b && zall2 f r s
  | _, _ => false
theorem zall2_of {α : Type} {f : α → α → Bool} (hf : ∀ {a b}, f a b = true → a = b) : ∀ {l r : List α}, zall2 f l r = true → l = r
  | [], [], _ => rfl
  | a :: r, b :: s, h => by
    obtain ⟨h1, h2⟩ := andB h
    rw [hf h1, zall2_of hf h2]
  | [], _ :: _, h => by cases h
  | _ :: _, [], h => by cases h
def zBeq (a b : ZB) : Bool := zleB a.1 b.1 && (zall2 zEeq a.2.1 b.2.1 && (zall2 zeq a.2.2.1 b.2.2.1 && zall2 zeq a.2.2.2 b.2.2.2))
theorem zBeq_of {a b : ZB} (h : zBeq a b = true) : a = b := by
  obtain ⟨h1, h2⟩ := andB h
  obtain ⟨h2, h3⟩ := andB h2
  obtain ⟨h3, h4⟩ := andB h3
  obtain ⟨a1, a2, a3, a4⟩ := a
  obtain ⟨b1, b2, b3, b4⟩ := b
  have h1 : a1 = b1 := zleB_of h1
  have h2 : a2 = b2 := zall2_of zEeq_of h2
  have h3 : a3 = b3 := zall2_of zeq_of h3
  have h4 : a4 = b4 := zall2_of zeq_of h4
  rw [h1, h2, h3, h4]
/-- a clause with terms for what is not its own -/
def zσB (σ : List (Nat × ZT)) (bv : List Nat) : List (Nat × ZT) := bv.map (fun v => (v, zx v)) ++ σ
def zSB (σ : List (Nat × ZT)) (b : ZB) : ZB := (b.1, b.2.1.map (fun e => (e.1, zS (zσB σ b.1) e.2.1, zS (zσB σ b.1) e.2.2.1, zS (zσB σ b.1) e.2.2.2)), b.2.2.1.map (zS (zσB σ b.1)), b.2.2.2.map (zS (zσB σ b.1)))
theorem zslk_bv {σ : List (Nat × ZT)} {bv : List Nat} {v : Nat} : zslk (zσB σ bv) v = if zmem v bv = true then zx v else zslk σ v := by
  induction bv with
  | nil => rfl
  | cons n r ih =>
    show (bif Nat.beq n v then zx n else zslk (zσB σ r) v) = if (Nat.beq n v || zmem v r) = true then _ else _
    cases e : Nat.beq n v with
    | true =>
      rw [beqN e]
      rfl
    | false =>
      show zslk (zσB σ r) v = _
      rw [ih]
      rfl
theorem zslk_oc {σ : List (Nat × ZT)} {f : Nat → Bool} (h : σ.all (fun q => !(zoc f q.2)) = true) {v : Nat} (hv : f v = false) : zoc f (zslk σ v) = false := by
  induction σ with
  | nil =>
    show (f v || false) = false
    rw [hv]
    rfl
  | cons q r ih =>
    rw [List.all_cons] at h
    obtain ⟨h1, h2⟩ := andB h
    show zoc f (bif Nat.beq q.1 v then q.2 else zslk r v) = false
    cases e : Nat.beq q.1 v with
    | true => exact notB h1
    | false => exact ih h2
theorem zSB_of {σ : List (Nat × ZT)} {ρ : Nat → Int} {h : MH} {b : ZB} (B : zB ρ h (zSB σ b)) (hσ : σ.all (fun q => !(zoc (fun v => zmem v b.1) q.2)) = true) : zB (zσ σ ρ) h b := by
  intro β hβ he hg c hc
  let γ : Nat → Int := fun v => if zmem v b.1 = true then β v else ρ v
  have off : ∀ v, zmem v b.1 = false → γ v = ρ v := fun v hv => by
    show (if zmem v b.1 = true then β v else ρ v) = ρ v
    rw [if_neg (by rw [hv]; decide)]
  have pt : zσ (zσB σ b.1) γ = β := by
    funext v
    show zv γ (zslk (zσB σ b.1) v) = β v
    rw [zslk_bv]
    cases w : zmem v b.1 with
    | true =>
      rw [if_pos rfl, zx_v]
      show (if zmem v b.1 = true then β v else ρ v) = β v
      rw [if_pos w]
    | false =>
      rw [if_neg (by decide), zoc_no (zslk_oc hσ w) off]
      exact (hβ v w).symm
  have tv : ∀ t : ZT, zv γ (zS (zσB σ b.1) t) = zv β t := fun t => by rw [zS_v, pt]
  have r := B γ (fun v hv => off v hv) (fun e me => by
    obtain ⟨x, m, rfl⟩ := List.mem_map.mp me
    have q := he x m
    unfold zE at q ⊢
    show inZ x.1 (zv γ (zS (zσB σ b.1) x.2.1)) (zv γ (zS (zσB σ b.1) x.2.2.1)) ∧ gz h (zv γ (zS (zσB σ b.1) x.2.1)) (zv γ (zS (zσB σ b.1) x.2.2.1)) = zv γ (zS (zσB σ b.1) x.2.2.2)
    rw [tv, tv, tv]
    exact q) (fun g mg => by
    obtain ⟨x, m, rfl⟩ := List.mem_map.mp mg
    rw [tv]
    exact hg x m) (zS (zσB σ b.1) c) (List.mem_map.mpr ⟨c, hc, rfl⟩)
  rw [tv] at r
  exact r
/-- a place that is come to from several sides: its row, from where on variables are its own, what holds there, its measure (there, and when it was come to) -/
abbrev ZX : Type := Nat × Nat × ZSt × Option (ZT × ZT) × Nat × Nat
def jL (σ : List (Nat × ZT)) (cur : ZLs) (lab : ZLs) : Bool := lab.all fun q => match zlk cur q.1 with
  | some v => Nat.beq v.1 q.2.1 && zeq (zS σ q.2.2) v.2
  | none => false
def jA (σ : List (Nat × ZT)) (A : List ZA) : List ZA → List Nat → Bool
  | [], _ => true
  | a :: r, n :: ns => (match zget A n with
    | some q => zeq (zS σ a.1) q.1 && (zeq (zS σ a.2.1) q.2.1 && zeq (zS σ a.2.2) q.2.2)
    | none => false) && jA σ A r ns
  | _ :: _, [] => false
def jD (σ : List (Nat × ZT)) (K : ZK) : List (List ZT) → List Nat → Option (List Nat)
  | [], k => some k
  | d :: r, 0 :: n :: k => (match zget K.2.1 n with
    | some l => bif zall2 zeq (d.map (zS σ)) l then jD σ K r k else none
    | none => none)
  | d :: r, _ :: j :: k => (match rdC k with
    | (c, k) => (match zget d j with
      | some f => bif zcert K.1 c (zS σ f) then jD σ K r k else none
      | none => none))
  | _ :: _, _ => none
def jV (σ : List (Nat × ZT)) (V : List ZC) : List ZC → List Nat → Bool
  | [], _ => true
  | c :: r, n :: ns => (match zget V n with
    | some q => Nat.beq c.1 q.1 && (Nat.blt 0 c.1 || (zBeq (zSB σ c.2) q.2 && σ.all (fun p => !(zoc (fun v => zmem v c.2.1) p.2))))
    | none => false) && jV σ V r ns
  | _ :: _, [] => false
/-- what is known fits a place -/
def jK (σ : List (Nat × ZT)) (K lab : ZK) (k : List Nat) : Option (List Nat) := match rdCs lab.1.length k with
  | (cs, k) => bif zcerts K.1 cs (lab.1.map (zS σ)) then (match jD σ K lab.2.1 k with
    | some k => (match rdNs lab.2.2.1.length k with
      | (as, k) => (match rdNs lab.2.2.2.length k with
        | (vs, k) => bif jA σ K.2.2.1 lab.2.2.1 as && jV σ K.2.2.2 lab.2.2.2 vs then some k else none))
    | none => none) else none
def rdσ : Nat → List Nat → List (Nat × ZT) × List Nat
  | 0, k => ([], k)
  | n + 1, v :: k => match rdT k with
    | (t, k) => (match rdσ n k with
      | (l, k) => ((v, t) :: l, k))
  | _ + 1, [] => ([], [])
section KA
variable {G : ZG} {ρ : Nat → Int} {h : MH} {σ : List (Nat × ZT)} {K lab : ZK} {k k' : List Nat}
theorem jA_of {A : List ZA} (hA : ∀ a ∈ A, zA ρ h a) : ∀ {l : List ZA} {ns : List Nat}, jA σ A l ns = true → ∀ a ∈ l, zA (zσ σ ρ) h a
  | [], _, _, a, ha => absurd ha List.not_mem_nil
  | x :: r, n :: ns, e, a, ha => by
    obtain ⟨h1, h2⟩ := andB e
    rcases List.mem_cons.mp ha with w | w
    · subst w
      split at h1
      · next q hq =>
        obtain ⟨c1, c2⟩ := andB h1
        obtain ⟨c2, c3⟩ := andB c2
        have m := hA q (zget_mem hq)
        unfold zA at m ⊢
        rw [← zeq_of c1, ← zeq_of c2, ← zeq_of c3, zS_v, zS_v, zS_v] at m
        exact m
      · cases h1
    · exact jA_of hA h2 a w
  | _ :: _, [], e, _, _ => by cases e
theorem jD_of (B : Kn G ρ h K) : ∀ {l : List (List ZT)} {k k' : List Nat}, jD σ K l k = some k' → ∀ d ∈ l, ∃ f ∈ d, 0 ≤ zv (zσ σ ρ) f
  | [], _, _, _, d, hd => absurd hd List.not_mem_nil
  | x :: r, k, k', e, d, hd => by
    unfold jD at e
    split at e
    · next e0 => cases e0
    · next x' r' n k1 e0 =>
      cases e0
      split at e
      · next l hl =>
        cases e1 : zall2 zeq (x.map (zS σ)) l with
        | false => rw [e1] at e; cases e
        | true =>
          rw [e1, cond_true] at e
          rcases List.mem_cons.mp hd with w | w
          · subst w
            obtain ⟨f, m, p⟩ := B.2.1 l (zget_mem hl)
            rw [← zall2_of zeq_of e1] at m
            obtain ⟨t, m2, rfl⟩ := List.mem_map.mp m
            rw [zS_v] at p
            exact ⟨t, m2, p⟩
          · exact jD_of B e d w
      · cases e
    · next x' r' _ j k1 _ e0 =>
      cases e0
      split at e
      next c k2 e1 =>
      split at e
      · next f hf =>
        cases e2 : zcert K.1 c (zS σ f) with
        | false => rw [e2] at e; cases e
        | true =>
          rw [e2, cond_true] at e
          rcases List.mem_cons.mp hd with w | w
          · subst w
            have p := zcert_of B.1 e2
            rw [zS_v] at p
            exact ⟨f, zget_mem hf, p⟩
          · exact jD_of B e d w
      · cases e
    · cases e
theorem jV_of {V : List ZC} (hV : ∀ c ∈ V, zCl G ρ h c) : ∀ {l : List ZC} {ns : List Nat}, jV σ V l ns = true → ∀ c ∈ l, zCl G (zσ σ ρ) h c
  | [], _, _, c, hc => absurd hc List.not_mem_nil
  | x :: r, n :: ns, e, c, hc => by
    obtain ⟨h1, h2⟩ := andB e
    rcases List.mem_cons.mp hc with w | w
    · subst w
      split at h1
      · next q hq =>
        obtain ⟨c1, c2⟩ := andB h1
        have c1 := beqN c1
        have m := hV q (zget_mem hq)
        obtain ⟨u, b⟩ := c
        obtain ⟨u', b'⟩ := q
        have c1 : u = u' := c1
        subst c1
        match u, c2, m with
        | 0, c2, m =>
          have c2 : (false || (zBeq (zSB σ b) b' && σ.all (fun p => !(zoc (fun v => zmem v b.1) p.2)))) = true := c2
          rw [Bool.false_or] at c2
          obtain ⟨d1, d2⟩ := andB c2
          have m : zB ρ h b' := m
          rw [← zBeq_of d1] at m
          exact zSB_of m d2
        | u + 1, _, m => exact m
      · cases h1
    · exact jV_of hV h2 c w
  | _ :: _, [], e, _, _ => by cases e
theorem jK_of (B : Kn G ρ h K) (e : jK σ K lab k = some k') : Kn G (zσ σ ρ) h lab := by
  unfold jK at e
  split at e
  next cs k1 e1 =>
  cases e2 : zcerts K.1 cs (lab.1.map (zS σ)) with
  | false => rw [e2] at e; cases e
  | true =>
    rw [e2, cond_true] at e
    split at e
    · next k2 e3 =>
      split at e
      next as k3 e4 =>
      split at e
      next vs k4 e5 =>
      cases e6 : (jA σ K.2.2.1 lab.2.2.1 as && jV σ K.2.2.2 lab.2.2.2 vs) with
      | false => rw [e6] at e; cases e
      | true =>
        obtain ⟨f1, f2⟩ := andB e6
        refine ⟨fun f hf => ?_, jD_of B e3, jA_of B.2.2.1 f1, jV_of B.2.2.2 f2⟩
        have := zcerts_of B.1 e2 (zS σ f) (List.mem_map.mpr ⟨f, hf, rfl⟩)
        rw [zS_v] at this
        exact this
    · cases e
theorem jL_of {cur lab : ZLs} (e : jL σ cur lab = true) : ∀ q ∈ zL (zσ σ ρ) lab, mlook (zL ρ cur) q.1 = some q.2 := fun q hq => by
  obtain ⟨x, m, rfl⟩ := List.mem_map.mp hq
  have w := List.all_eq_true.mp e x m
  split at w
  · next v hv =>
    obtain ⟨c1, c2⟩ := andB w
    have := zlk_of ρ hv
    rw [this, ← beqN c1, beqN c1, ← zeq_of c2, zS_v]
  · cases w
def jS (σ : List (Nat × ZT)) : ZSs → ZSs → Bool
  | [], [] => true
  | p :: r, q :: s => Nat.beq p.1 q.1 && (zeq (zS σ p.2) q.2 && jS σ r s)
  | _, _ => false
theorem jS_of : ∀ {l r : ZSs}, jS σ l r = true → zSk (zσ σ ρ) l = zSk ρ r
  | [], [], _ => rfl
  | p :: r, q :: s, e => by
    obtain ⟨h1, h2⟩ := andB e
    obtain ⟨h2, h3⟩ := andB h2
    show (p.1, zv (zσ σ ρ) p.2) :: zSk (zσ σ ρ) r = (q.1, zv ρ q.2) :: zSk ρ s
    rw [beqN h1, ← zeq_of h2, zS_v, jS_of h3]
  | [], _ :: _, e => by cases e
  | _ :: _, [], e => by cases e
end KA
theorem zSB_to {σ : List (Nat × ZT)} {ρ : Nat → Int} {h : MH} {b : ZB} (B : zB (zσ σ ρ) h b) (hσ : σ.all (fun q => !(zoc (fun v => zmem v b.1) q.2)) = true) : zB ρ h (zSB σ b) := by
  intro β hb he hg c hc
  have hb : ∀ v, zmem v b.1 = false → β v = ρ v := hb
  have key : ∀ v, zmem v b.1 = false → zσ (zσB σ b.1) β v = zσ σ ρ v := fun v hv => by
    unfold zσ
    rw [zslk_bv, if_neg (by rw [hv]; decide)]
    exact zoc_no (zslk_oc hσ (f := fun v => zmem v b.1) hv) hb
  have kv : ∀ t : ZT, zv (zσ (zσB σ b.1) β) t = zv β (zS (zσB σ b.1) t) := fun t => (zS_v _ _ _).symm
  obtain ⟨c0, mc, rfl⟩ := List.mem_map.mp hc
  have := B (zσ (zσB σ b.1) β) key (fun e me => by
    have q := he _ (List.mem_map.mpr ⟨e, me, rfl⟩)
    unfold zE at q ⊢
    rw [kv, kv, kv]
    exact q) (fun g mg => by
    have q := hg _ (List.mem_map.mpr ⟨g, mg, rfl⟩)
    rw [kv]
    exact q) c0 mc
  rw [kv] at this
  exact this
