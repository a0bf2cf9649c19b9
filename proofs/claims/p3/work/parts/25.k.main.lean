/-! places come to from several sides, the run of a script, what it is worth -/
def zleB : List Nat → List Nat → Bool
  | [], [] => true
  | a :: r, b :: s => Nat.beq a b && zleB r s
  | _, _ => false
theorem zleB_of : ∀ {a b : List Nat}, zleB a b = true → a = b
  | [], [], _ => rfl
  | a :: r, b :: s, h => by
    obtain ⟨h1, h2⟩ := andB h
    rw [beqN h1, zleB_of h2]
  | [], _ :: _, h => by cases h
  | _ :: _, [], h => by cases h
def zReq (a b : ZR) : Bool := Nat.beq a.1 b.1 && (Nat.beq a.2.1 b.2.1 && (Nat.beq a.2.2.1 b.2.2.1 && Nat.beq a.2.2.2 b.2.2.2))
theorem zReq_of {a b : ZR} (h : zReq a b = true) : a = b := by
  obtain ⟨h1, h2⟩ := andB h
  obtain ⟨h2, h3⟩ := andB h2
  obtain ⟨h3, h4⟩ := andB h3
  obtain ⟨a1, a2, a3, a4⟩ := a
  obtain ⟨b1, b2, b3, b4⟩ := b
  have h1 : a1 = b1 := beqN h1
  have h2 : a2 = b2 := beqN h2
  have h3 : a3 = b3 := beqN h3
  have h4 : a4 = b4 := beqN h4
  rw [h1, h2, h3, h4]
def zEeq (a b : ZE) : Bool := zReq a.1 b.1 && (zeq a.2.1 b.2.1 && (zeq a.2.2.1 b.2.2.1 && zeq a.2.2.2 b.2.2.2))
theorem zEeq_of {a b : ZE} (h : zEeq a b = true) : a = b := by
  obtain ⟨h1, h2⟩ := andB h
  obtain ⟨h2, h3⟩ := andB h2
  obtain ⟨h3, h4⟩ := andB h3
  obtain ⟨a1, a2, a3, a4⟩ := a
  obtain ⟨b1, b2, b3, b4⟩ := b
  have h1 : a1 = b1 := zReq_of h1
  have h2 : a2 = b2 := zeq_of h2
  have h3 : a3 = b3 := zeq_of h3
  have h4 : a4 = b4 := zeq_of h4
  rw [h1, h2, h3, h4]
def zall2 {α : Type} (f : α → α → Bool) : List α → List α → Bool
  | [], [] => true
  | a :: r, b :: s => f a b && zall2 f r s
  | _, _ => false
theorem zall2_of {α : Type} {f : α → α → Bool} (hf : ∀ {a b}, f a b = true → a = b) : ∀ {l r : List α}, zall2 f l r = true → l = r
  | [], [], _ => rfl
  | a :: r, b :: s, h => by
    obtain ⟨h1, h2⟩ := andB h
    rw [hf h1, zall2_of hf h2]
  | [], _ :: _, h => by cases h
  | _ :: _, [], h => by cases h
def zBeq (a b : ZB) : Bool := zleB a.1 b.1 && (zall2 zEeq a.2.1 b.2.1 && (zall2 zeq a.2.2.1 b.2.2.1 && zall2 zeq a.2.2.2 b.2.2.2))
theorem zBeq_of {a b : ZB} (h : zBeq a b = true) : a = b := by
  obtain ⟨h1, h2⟩ := andB h
  obtain ⟨h2, h3⟩ := andB h2
  obtain ⟨h3, h4⟩ := andB h3
  obtain ⟨a1, a2, a3, a4⟩ := a
  obtain ⟨b1, b2, b3, b4⟩ := b
  have h1 : a1 = b1 := zleB_of h1
  have h2 : a2 = b2 := zall2_of zEeq_of h2
  have h3 : a3 = b3 := zall2_of zeq_of h3
  have h4 : a4 = b4 := zall2_of zeq_of h4
  rw [h1, h2, h3, h4]
/-- a clause with terms for what is not its own -/
def zσB (σ : List (Nat × ZT)) (bv : List Nat) : List (Nat × ZT) := bv.map (fun v => (v, zx v)) ++ σ
def zSB (σ : List (Nat × ZT)) (b : ZB) : ZB := (b.1, b.2.1.map (fun e => (e.1, zS (zσB σ b.1) e.2.1, zS (zσB σ b.1) e.2.2.1, zS (zσB σ b.1) e.2.2.2)), b.2.2.1.map (zS (zσB σ b.1)), b.2.2.2.map (zS (zσB σ b.1)))
theorem zslk_bv {σ : List (Nat × ZT)} {bv : List Nat} {v : Nat} : zslk (zσB σ bv) v = if zmem v bv = true then zx v else zslk σ v := by
  induction bv with
  | nil => rfl
  | cons n r ih =>
    show (bif Nat.beq n v then zx n else zslk (zσB σ r) v) = if (Nat.beq n v || zmem v r) = true then _ else _
    cases e : Nat.beq n v with
    | true =>
      rw [beqN e]
      rfl
    | false =>
      show zslk (zσB σ r) v = _
      rw [ih]
      rfl
theorem zslk_oc {σ : List (Nat × ZT)} {f : Nat → Bool} (h : σ.all (fun q => !(zoc f q.2)) = true) {v : Nat} (hv : f v = false) : zoc f (zslk σ v) = false := by
  induction σ with
  | nil =>
    show (f v || false) = false
    rw [hv]
    rfl
  | cons q r ih =>
    rw [List.all_cons] at h
    obtain ⟨h1, h2⟩ := andB h
    show zoc f (bif Nat.beq q.1 v then q.2 else zslk r v) = false
    cases e : Nat.beq q.1 v with
    | true => exact notB h1
    | false => exact ih h2
theorem zSB_of {σ : List (Nat × ZT)} {ρ : Nat → Int} {h : MH} {b : ZB} (B : zB ρ h (zSB σ b)) (hσ : σ.all (fun q => !(zoc (fun v => zmem v b.1) q.2)) = true) : zB (zσ σ ρ) h b := by
  intro β hβ he hg c hc
  let γ : Nat → Int := fun v => if zmem v b.1 = true then β v else ρ v
  have off : ∀ v, zmem v b.1 = false → γ v = ρ v := fun v hv => by
    show (if zmem v b.1 = true then β v else ρ v) = ρ v
    rw [if_neg (by rw [hv]; decide)]
  have pt : zσ (zσB σ b.1) γ = β := by
    funext v
    show zv γ (zslk (zσB σ b.1) v) = β v
    rw [zslk_bv]
    cases w : zmem v b.1 with
    | true =>
      rw [if_pos rfl, zx_v]
      show (if zmem v b.1 = true then β v else ρ v) = β v
      rw [if_pos w]
    | false =>
      rw [if_neg (by decide), zoc_no (zslk_oc hσ w) off]
      exact (hβ v w).symm
  have tv : ∀ t : ZT, zv γ (zS (zσB σ b.1) t) = zv β t := fun t => by rw [zS_v, pt]
  have r := B γ (fun v hv => off v hv) (fun e me => by
    obtain ⟨x, m, rfl⟩ := List.mem_map.mp me
    have q := he x m
    unfold zE at q ⊢
    show inZ x.1 (zv γ (zS (zσB σ b.1) x.2.1)) (zv γ (zS (zσB σ b.1) x.2.2.1)) ∧ gz h (zv γ (zS (zσB σ b.1) x.2.1)) (zv γ (zS (zσB σ b.1) x.2.2.1)) = zv γ (zS (zσB σ b.1) x.2.2.2)
    rw [tv, tv, tv]
    exact q) (fun g mg => by
    obtain ⟨x, m, rfl⟩ := List.mem_map.mp mg
    rw [tv]
    exact hg x m) (zS (zσB σ b.1) c) (List.mem_map.mpr ⟨c, hc, rfl⟩)
  rw [tv] at r
  exact r
/-- a place that is come to from several sides: its row, from where on variables are its own, what holds there, its measure (there, and when it was come to) -/
abbrev ZX : Type := Nat × Nat × ZSt × Option (ZT × ZT)
def jL (σ : List (Nat × ZT)) (cur : ZLs) (lab : ZLs) : Bool := lab.all fun q => match zlk cur q.1 with
  | some v => Nat.beq v.1 q.2.1 && zeq (zS σ q.2.2) v.2
  | none => false
def jA (σ : List (Nat × ZT)) (A : List ZA) : List ZA → List Nat → Bool
  | [], _ => true
  | a :: r, n :: ns => (match zget A n with
    | some q => zeq (zS σ a.1) q.1 && (zeq (zS σ a.2.1) q.2.1 && zeq (zS σ a.2.2) q.2.2)
    | none => false) && jA σ A r ns
  | _ :: _, [] => false
def jD (σ : List (Nat × ZT)) (K : ZK) : List (List ZT) → List Nat → Option (List Nat)
  | [], k => some k
  | d :: r, 0 :: n :: k => (match zget K.2.1 n with
    | some l => bif zall2 zeq (d.map (zS σ)) l then jD σ K r k else none
    | none => none)
  | d :: r, _ :: j :: k => (match rdC k with
    | (c, k) => (match zget d j with
      | some f => bif zcert K.1 c (zS σ f) then jD σ K r k else none
      | none => none))
  | _ :: _, _ => none
def jV (σ : List (Nat × ZT)) (V : List ZC) : List ZC → List Nat → Bool
  | [], _ => true
  | c :: r, n :: ns => (match zget V n with
    | some q => Nat.beq c.1 q.1 && (Nat.blt 0 c.1 || (zBeq (zSB σ c.2) q.2 && σ.all (fun p => !(zoc (fun v => zmem v c.2.1) p.2))))
    | none => false) && jV σ V r ns
  | _ :: _, [] => false
/-- what is known fits a place -/
def jK (σ : List (Nat × ZT)) (K lab : ZK) (k : List Nat) : Option (List Nat) := match rdCs lab.1.length k with
  | (cs, k) => bif zcerts K.1 cs (lab.1.map (zS σ)) then (match jD σ K lab.2.1 k with
    | some k => (match rdNs lab.2.2.1.length k with
      | (as, k) => (match rdNs lab.2.2.2.length k with
        | (vs, k) => bif jA σ K.2.2.1 lab.2.2.1 as && jV σ K.2.2.2 lab.2.2.2 vs then some k else none))
    | none => none) else none
def rdσ : Nat → List Nat → List (Nat × ZT) × List Nat
  | 0, k => ([], k)
  | n + 1, v :: k => match rdT k with
    | (t, k) => (match rdσ n k with
      | (l, k) => ((v, t) :: l, k))
  | _ + 1, [] => ([], [])
section KA
variable {G : ZG} {ρ : Nat → Int} {h : MH} {σ : List (Nat × ZT)} {K lab : ZK} {k k' : List Nat}
theorem jA_of {A : List ZA} (hA : ∀ a ∈ A, zA ρ h a) : ∀ {l : List ZA} {ns : List Nat}, jA σ A l ns = true → ∀ a ∈ l, zA (zσ σ ρ) h a
  | [], _, _, a, ha => absurd ha List.not_mem_nil
  | x :: r, n :: ns, e, a, ha => by
    obtain ⟨h1, h2⟩ := andB e
    rcases List.mem_cons.mp ha with w | w
    · subst w
      split at h1
      · next q hq =>
        obtain ⟨c1, c2⟩ := andB h1
        obtain ⟨c2, c3⟩ := andB c2
        have m := hA q (zget_mem hq)
        unfold zA at m ⊢
        rw [← zeq_of c1, ← zeq_of c2, ← zeq_of c3, zS_v, zS_v, zS_v] at m
        exact m
      · cases h1
    · exact jA_of hA h2 a w
  | _ :: _, [], e, _, _ => by cases e
theorem jD_of (B : Kn G ρ h K) : ∀ {l : List (List ZT)} {k k' : List Nat}, jD σ K l k = some k' → ∀ d ∈ l, ∃ f ∈ d, 0 ≤ zv (zσ σ ρ) f
  | [], _, _, _, d, hd => absurd hd List.not_mem_nil
  | x :: r, k, k', e, d, hd => by
    unfold jD at e
    split at e
    · next e0 => cases e0
    · next x' r' n k1 e0 =>
      cases e0
      split at e
      · next l hl =>
        cases e1 : zall2 zeq (x.map (zS σ)) l with
        | false => rw [e1] at e; cases e
        | true =>
          rw [e1, cond_true] at e
          rcases List.mem_cons.mp hd with w | w
          · subst w
            obtain ⟨f, m, p⟩ := B.2.1 l (zget_mem hl)
            rw [← zall2_of zeq_of e1] at m
            obtain ⟨t, m2, rfl⟩ := List.mem_map.mp m
            rw [zS_v] at p
            exact ⟨t, m2, p⟩
          · exact jD_of B e d w
      · cases e
    · next x' r' _ j k1 _ e0 =>
      cases e0
      split at e
      next c k2 e1 =>
      split at e
      · next f hf =>
        cases e2 : zcert K.1 c (zS σ f) with
        | false => rw [e2] at e; cases e
        | true =>
          rw [e2, cond_true] at e
          rcases List.mem_cons.mp hd with w | w
          · subst w
            have p := zcert_of B.1 e2
            rw [zS_v] at p
            exact ⟨f, zget_mem hf, p⟩
          · exact jD_of B e d w
      · cases e
    · cases e
theorem jV_of {V : List ZC} (hV : ∀ c ∈ V, zCl G ρ h c) : ∀ {l : List ZC} {ns : List Nat}, jV σ V l ns = true → ∀ c ∈ l, zCl G (zσ σ ρ) h c
  | [], _, _, c, hc => absurd hc List.not_mem_nil
  | x :: r, n :: ns, e, c, hc => by
    obtain ⟨h1, h2⟩ := andB e
    rcases List.mem_cons.mp hc with w | w
    · subst w
      split at h1
      · next q hq =>
        obtain ⟨c1, c2⟩ := andB h1
        have c1 := beqN c1
        have m := hV q (zget_mem hq)
        obtain ⟨u, b⟩ := c
        obtain ⟨u', b'⟩ := q
        have c1 : u = u' := c1
        subst c1
        match u, c2, m with
        | 0, c2, m =>
          have c2 : (false || (zBeq (zSB σ b) b' && σ.all (fun p => !(zoc (fun v => zmem v b.1) p.2)))) = true := c2
          rw [Bool.false_or] at c2
          obtain ⟨d1, d2⟩ := andB c2
          have m : zB ρ h b' := m
          rw [← zBeq_of d1] at m
          exact zSB_of m d2
        | u + 1, _, m => exact m
      · cases h1
    · exact jV_of hV h2 c w
  | _ :: _, [], e, _, _ => by cases e
theorem jK_of (B : Kn G ρ h K) (e : jK σ K lab k = some k') : Kn G (zσ σ ρ) h lab := by
  unfold jK at e
  split at e
  next cs k1 e1 =>
  cases e2 : zcerts K.1 cs (lab.1.map (zS σ)) with
  | false => rw [e2] at e; cases e
  | true =>
    rw [e2, cond_true] at e
    split at e
    · next k2 e3 =>
      split at e
      next as k3 e4 =>
      split at e
      next vs k4 e5 =>
      cases e6 : (jA σ K.2.2.1 lab.2.2.1 as && jV σ K.2.2.2 lab.2.2.2 vs) with
      | false => rw [e6] at e; cases e
      | true =>
        obtain ⟨f1, f2⟩ := andB e6
        refine ⟨fun f hf => ?_, jD_of B e3, jA_of B.2.2.1 f1, jV_of B.2.2.2 f2⟩
        have := zcerts_of B.1 e2 (zS σ f) (List.mem_map.mpr ⟨f, hf, rfl⟩)
        rw [zS_v] at this
        exact this
    · cases e
theorem jL_of {cur lab : ZLs} (e : jL σ cur lab = true) : ∀ q ∈ zL (zσ σ ρ) lab, mlook (zL ρ cur) q.1 = some q.2 := fun q hq => by
  obtain ⟨x, m, rfl⟩ := List.mem_map.mp hq
  have w := List.all_eq_true.mp e x m
  split at w
  · next v hv =>
    obtain ⟨c1, c2⟩ := andB w
    have := zlk_of ρ hv
    rw [this, ← beqN c1, beqN c1, ← zeq_of c2, zS_v]
  · cases w
def jS (σ : List (Nat × ZT)) : ZSs → ZSs → Bool
  | [], [] => true
  | p :: r, q :: s => Nat.beq p.1 q.1 && (zeq (zS σ p.2) q.2 && jS σ r s)
  | _, _ => false
theorem jS_of : ∀ {l r : ZSs}, jS σ l r = true → zSk (zσ σ ρ) l = zSk ρ r
  | [], [], _ => rfl
  | p :: r, q :: s, e => by
    obtain ⟨h1, h2⟩ := andB e
    obtain ⟨h2, h3⟩ := andB h2
    show (p.1, zv (zσ σ ρ) p.2) :: zSk (zσ σ ρ) r = (q.1, zv ρ q.2) :: zSk ρ s
    rw [beqN h1, ← zeq_of h2, zS_v, jS_of h3]
  | [], _ :: _, e => by cases e
  | _ :: _, [], e => by cases e
end KA
/-- to a place: w tells whether its measure must fall -/
def zjmp (x : ZX) (s : ZSt) (k : List Nat) : Option (List Nat) := match k with
  | m :: k => (match rdσ m k with
    | (σ, k) => bif σ.all (fun q => Nat.ble x.2.1 q.1) && (jL σ s.1 x.2.2.1.1 && jS σ x.2.2.1.2.1 s.2.1) then (match jK σ s.2.2 x.2.2.1.2.2 k with
      | some k => (match x.2.2.2 with
        | none => some k
        | some (t, hd) => (match rdCs 2 k with
          | (cs, k) => bif zcerts s.2.2.1 cs [zS σ t, zpl (zsb hd (zS σ t)) (-1)] then some k else none))
      | none => none) else none)
  | [] => none
/-- a place is read -/
def rdLs : Nat → List Nat → ZLs × List Nat
  | 0, k => ([], k)
  | n + 1, a :: t :: k => match rdT k with
    | (x, k) => (match rdLs n k with
      | (l, k) => ((a, t, x) :: l, k))
  | _ + 1, k => ([], k)
def rdSs : Nat → List Nat → ZSs × List Nat
  | 0, k => ([], k)
  | n + 1, t :: k => match rdT k with
    | (x, k) => (match rdSs n k with
      | (l, k) => ((t, x) :: l, k))
  | _ + 1, [] => ([], [])
def rdDs : Nat → List Nat → List (List ZT) × List Nat
  | 0, k => ([], k)
  | n + 1, m :: k => match rdTs m k with
    | (d, k) => (match rdDs n k with
      | (l, k) => (d :: l, k))
  | _ + 1, [] => ([], [])
def rdAs : Nat → List Nat → List ZA × List Nat
  | 0, k => ([], k)
  | n + 1, k => match rdT k with
    | (r, k) => (match rdT k with
      | (i, k) => (match rdT k with
        | (v, k) => (match rdAs n k with
          | (l, k) => ((r, i, v) :: l, k))))
def rdVs (tb : List Nat) : Nat → List Nat → Option (List ZC × List Nat)
  | 0, k => some ([], k)
  | n + 1, k => match rdCl tb k with
    | some (c, k) => (match rdVs tb n k with
      | some (l, k) => some (c :: l, k)
      | none => none)
    | none => none
def rdSt (tb : List Nat) (k : List Nat) : Option (ZSt × List Nat) := match k with
  | a :: b :: c :: d :: e :: f :: k => (match rdLs a k with
    | (L, k) => (match rdSs b k with
      | (S, k) => (match rdTs c k with
        | (F, k) => (match rdDs d k with
          | (D, k) => (match rdAs e k with
            | (A, k) => (match rdVs tb f k with
              | some (V, k) => some ((L, S, (F, D, A, V)), k)
              | none => none))))))
  | _ => none
def zblw (b : Nat) (t : ZT) : Bool := !(zoc (fun v => Nat.ble b v) t)
def zfrS (lo : Nat) (s : ZSt) (v : Nat) : Bool := Nat.ble lo v && !(zocL (Nat.beq v) s.1 || zocS (Nat.beq v) s.2.1)
/-- a truth, a sign, as they are answered -/
def zrb (F : List ZT) (op a : Nat) (S : ZSs) (k : List Nat) : Option (List Nat) := bif Nat.beq op 61 then (match S, a with
  | v :: _, 4 => zwi F 0 1 v.2 k
  | v :: _, 5 => zwi F 0 65535 v.2 k
  | _, 0 => some k
  | _, _ => none) else some k
/-- an answer: it keeps the contract -/
def zret (c : ZCt) (mi : MI) (s : ZSt) (k : List Nat) : Option (List Nat) := match rdNs (kO c).length k with
  | (es, k) => (match (match mi.2.1, s.2.1, kRs c with
    | 63, [], none => some []
    | 61, [v], some q => bif Nat.beq v.1 0 && Nat.beq q.1 0 then some [(q.2, v.2)] else none
    | 62, [v], some q => bif Nat.beq v.1 1 && Nat.beq q.1 1 then some [(q.2, v.2)] else none
    | 64, [v], some q => bif Nat.beq v.1 2 && Nat.beq q.1 2 then some [(q.2, v.2)] else none
    | _, _, _ => none) with
    | some σ0 => (match zrb s.2.2.1 mi.2.1 mi.2.2.2.1 s.2.1 k with
      | some k =>
        bif zent (σ0 ++ zen s.2.2.2.2.1 (kO c) es) s.2.2.2.2.1 (kO c) es then (match rdCs (kEF c).length k with
          | (cs, k) => bif zcerts s.2.2.1 cs ((kEF c).map (zS (σ0 ++ zen s.2.2.2.2.1 (kO c) es))) then (match jD (σ0 ++ zen s.2.2.2.2.1 (kO c) es) s.2.2 (kED c) k with
            | some k => (match rdNs (kEV c).length k with
              | (vs, k) => bif zreqV s.2.2.2.2.2 (kEV c) vs then some k else none)
            | none => none) else none) else none
      | none => none)
    | none => none)
def zdrp : Nat → List MI → List MI
  | _, [] => []
  | n, x :: r => bif Nat.beq n 0 then x :: r else zdrp (n - 1) r
theorem zdrp_of : ∀ {n : Nat} {l : List MI}, zdrp n l = l.drop n
  | n, [] => List.drop_nil.symm
  | 0, x :: r => rfl
  | n + 1, x :: r => zdrp_of (n := n) (l := r)
def zall (f : Nat × ZSt → List Nat → Option (List Nat)) : List (Nat × ZSt) → List Nat → Option (List Nat)
  | [], k => some k
  | q :: r, k => match f q k with
    | some k => zall f r k
    | none => none
/-- the run of a script -/
def zrun (G : ZG) (T : ZTab) (M : List ZR) (CT : Nat → Option ZCt) (m : Nat) (c : ZCt) (P : MP) : Nat → Nat → List ZX → Nat → List MI → ZSt → List Nat → Option (List Nat)
  | 0, _, _, _, _, _, _ => none
  | _ + 1, _, _, _, _, _, [] => none
  | n + 1, lo, cx, i, R, s, o :: k => match o with
    | 30 => (match R with
      | [] => none
      | mi :: R' => (match (bif Nat.beq mi.2.1 67 || Nat.beq mi.2.1 68 then xCall G T M CT m lo i mi.2.1 mi.2.2.2.1 s k else ist G T M P lo n i mi s k) with
        | some (ss, k) => zall (fun q k => zrun G T M CT m c P n lo cx q.1 (bif Nat.beq q.1 (i + 1) then R' else zdrp q.1 P.1) q.2 k) ss k
        | none => none))
    | 31 => (match k with
      | a :: k => (match zget cx a with
        | some x => bif Nat.beq x.1 i then zjmp x s k else none
        | none => none)
      | [] => none)
    | 32 => (match k with
      | b :: lo' :: k => (match rdSt (kVs c ++ kEV c) k with
        | some (lab, k) => (match rdT k with
          | (t, k) => bif Nat.ble lo b && (Nat.ble b lo' && zblw lo' t) then (match zjmp (i, b, lab, none) s k with
            | some k => zrun G T M CT m c P n lo' ((i, b, lab, some (t, t)) :: cx) i R lab k
            | none => none) else none)
        | none => none)
      | _ => none)
    | 33 => (match k with
      | j :: b :: lo' :: k => (match rdSt (kVs c ++ kEV c) k with
        | some (lab, k) => bif Nat.ble lo b && Nat.ble b lo' then (match zrun G T M CT m c P n lo' cx j (zdrp j P.1) lab k with
            | some k => zrun G T M CT m c P n lo' ((j, b, lab, none) :: cx) i R s k
            | none => none) else none
        | none => none)
      | _ => none)
    | 34 => (match R with
      | [] => none
      | mi :: _ => zret c mi s k)
    | 35 => (match k with
      | a :: k => (match zlk s.1 a with
        | some v => bif Nat.ble v.1 1 then zrun G T M CT m c P n lo cx i R (s.1, s.2.1, (rngF v.1 v.2 ++ s.2.2.1, s.2.2.2)) k else none
        | none => none)
      | [] => none)
    | 36 => (match s.2.1 with
      | v :: _ => bif Nat.ble v.1 1 then zrun G T M CT m c P n lo cx i R (s.1, s.2.1, (rngF v.1 v.2 ++ s.2.2.1, s.2.2.2)) k else none
      | [] => none)
    | 21 => (match rdT k with
      | (t, k) => (match zrun G T M CT m c P n lo cx i R (s.1, s.2.1, (t :: s.2.2.1, s.2.2.2)) k with
        | some k => zrun G T M CT m c P n lo cx i R (s.1, s.2.1, (zpl (zsm (-1) t) (-1) :: s.2.2.1, s.2.2.2)) k
        | none => none))
    | 22 => (match rdC k with
      | (d, k) => bif zcert s.2.2.1 d (zc (-1)) then some k else none)
    | 23 => gNone s.2.2 k
    | 10 => (match gAdd G (kVs c ++ kEV c) lo n s.2.2 k with
      | some (K, k) => zrun G T M CT m c P n lo cx i R (s.1, s.2.1, K) k
      | none => none)
    | o => (match gh0 G (zfrS lo s) o s.2.2 k with
      | some (K, k) => zrun G T M CT m c P n lo cx i R (s.1, s.2.1, K) k
      | none => none)
section KB
variable {G : ZG} {T : ZTab} {M : List ZR} {CT : Nat → Option ZCt} {m : Nat} {c : ZCt} {Q : MO → MH → Prop} {h0 : MH}
def msOk (ρ ρ0 : Nat → Int) (q : Option (ZT × ZT)) : Prop := match q with
  | none => True
  | some p => 0 ≤ zv ρ p.1 ∧ zv ρ p.1 < zv ρ0 p.2
def hdOk (lo : Nat) (q : Option (ZT × ZT)) : Prop := match q with
  | none => True
  | some p => zblw lo p.2 = true
/-- from the places of the list it goes well -/
def CxOk (G : ZG) (T : ZTab) (M : List ZR) (m : Nat) (Q : MO → MH → Prop) (h0 : MH) (lo : Nat) (cx : List ZX) (ρ0 : Nat → Int) : Prop := ∀ x ∈ cx, x.2.1 ≤ lo ∧ hdOk lo x.2.2.2 ∧ ∀ (ρ : Nat → Int) (h : MH), (∀ v, v < x.2.1 → ρ v = ρ0 v) → Inv G T M h0 ρ h x.2.2.1 → msOk ρ ρ0 x.2.2.2 → MW (kT m) Q 0 0 (pcA (pgT m) x.1) (zL ρ x.2.2.1.1) (zSk ρ x.2.2.1.2.1) h
theorem zblw_of {b : Nat} {t : ZT} (e : zblw b t = true) {ρ ρ' : Nat → Int} (h : ∀ v, v < b → ρ' v = ρ v) : zv ρ' t = zv ρ t := zoc_no (notB e) fun v hv => h v (by
  refine Nat.lt_of_not_le fun q => ?_
  rw [Nat.ble_eq_true_of_le q] at hv
  cases hv)
theorem CxOk.to {lo lo' : Nat} {cx : List ZX} {ρ0 ρ1 : Nat → Int} (C : CxOk G T M m Q h0 lo cx ρ0) (hl : lo ≤ lo') (h : ∀ v, v < lo → ρ1 v = ρ0 v) : CxOk G T M m Q h0 lo' cx ρ1 := fun x hx => by
  obtain ⟨c1, c2, c3⟩ := C x hx
  refine ⟨Nat.le_trans c1 hl, ?_, fun ρ h' a I ms => c3 ρ h' (fun v hv => (a v hv).trans (h v (by omega))) I ?_⟩
  · generalize x.2.2.2 = q at *
    cases q with
    | none => trivial
    | some p =>
      have c2 : zblw lo p.2 = true := c2
      show zblw lo' p.2 = true
      unfold zblw at c2 ⊢
      have c2 := notB c2
      have : zoc (fun v => Nat.ble lo' v) p.2 = false := by
        cases w : zoc (fun v => Nat.ble lo' v) p.2 with
        | false => rfl
        | true =>
          have : ∀ l : List (Nat × Int), zanyV (fun v => Nat.ble lo v) l = false → zanyV (fun v => Nat.ble lo' v) l = false := by
            intro l
            induction l with
            | nil => exact fun _ => rfl
            | cons p r ih =>
              intro z
              obtain ⟨z1, z2⟩ := orF z
              show (Nat.ble lo' p.1 || zanyV _ r) = false
              rw [ih z2, Bool.or_false]
              cases u : Nat.ble lo' p.1 with
              | false => rfl
              | true =>
                replace z1 : Nat.ble lo p.1 = false := z1
                rw [Nat.ble_eq_true_of_le (Nat.le_trans hl (bleN u))] at z1
                cases z1
          rw [show zoc (fun v => Nat.ble lo' v) p.2 = false from this _ c2] at w
          cases w
      rw [this]
      rfl
  · generalize x.2.2.2 = q at *
    cases q with
    | none => trivial
    | some p =>
      have c2 : zblw lo p.2 = true := c2
      have ms : 0 ≤ zv ρ p.1 ∧ zv ρ p.1 < zv ρ1 p.2 := ms
      rw [zblw_of c2 h] at ms
      exact ms
theorem zjmp_of {x : ZX} {s : ZSt} {k k' : List Nat} {ρ : Nat → Int} {h : MH} {P : MP} {K : mK} (e : zjmp x s k = some k') (I : Inv G T M h0 ρ h s) (go : ∀ ρ', (∀ v, v < x.2.1 → ρ' v = ρ v) → Inv G T M h0 ρ' h x.2.2.1 → msOk ρ' ρ x.2.2.2 → MW K Q 0 0 (pcA P x.1) (zL ρ' x.2.2.1.1) (zSk ρ' x.2.2.1.2.1) h) : MW K Q 0 0 (pcA P x.1) (zL ρ s.1) (zSk ρ s.2.1) h := by
  unfold zjmp at e
  split at e
  · next m' k1 =>
    split at e
    next σ k2 e1 =>
    cases e2 : (σ.all (fun q => Nat.ble x.2.1 q.1) && (jL σ s.1 x.2.2.1.1 && jS σ x.2.2.1.2.1 s.2.1)) with
    | false => rw [e2] at e; cases e
    | true =>
      rw [e2, cond_true] at e
      obtain ⟨a1, a2⟩ := andB e2
      obtain ⟨a2, a3⟩ := andB a2
      split at e
      · next k3 e3 =>
        have hv : ∀ v, v < x.2.1 → zσ σ ρ v = ρ v := fun v hv => zσ_no (by
          cases w : (σ.any fun q => Nat.beq q.1 v) with
          | false => rfl
          | true =>
            obtain ⟨q, mq, hq⟩ := List.any_eq_true.mp w
            have := bleN (List.all_eq_true.mp a1 q mq)
            have := beqN hq
            omega)
        have ms : msOk (zσ σ ρ) ρ x.2.2.2 := by
          generalize x.2.2.2 = q at *
          cases q with
          | none => trivial
          | some p =>
            obtain ⟨t, hd⟩ := p
            replace e : (match rdCs 2 k3 with
              | (cs, k) => bif zcerts s.2.2.1 cs [zS σ t, zpl (zsb hd (zS σ t)) (-1)] then some k else none) = some k' := e
            split at e
            next cs k4 e4 =>
            cases e5 : zcerts s.2.2.1 cs [zS σ t, zpl (zsb hd (zS σ t)) (-1)] with
            | false => rw [e5] at e; cases e
            | true =>
              have q := zcerts_of I.1.1 e5
              have q1 := q _ List.mem_cons_self
              have q2 := q _ (List.mem_cons_of_mem _ List.mem_cons_self)
              rw [zS_v] at q1
              rw [zpl_v, zsb_v, zS_v] at q2
              exact ⟨q1, by show zv (zσ σ ρ) t < zv ρ hd; omega⟩
        have w := go (zσ σ ρ) hv ⟨jK_of I.1 e3, I.2⟩ ms
        rw [jS_of a3] at w
        exact m_sub _ (jL_of a2) w
      · cases e
  · cases e
end KB
