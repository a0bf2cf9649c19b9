/-! linear terms, what they are worth, proofs by sums of facts; numbers read from one number -/
abbrev ZT : Type := Int × List (Nat × Int)
def zl (ρ : Nat → Int) : List (Nat × Int) → Int
  | [] => 0
  | q :: r => q.2 * ρ q.1 + zl ρ r
def zv (ρ : Nat → Int) (t : ZT) : Int := t.1 + zl ρ t.2
def zI0 (z : Int) : Bool := match z with
  | .ofNat n => Nat.beq n 0
  | .negSucc _ => false
theorem zI0_of {z : Int} (h : zI0 z = true) : z = 0 := by
  cases z with
  | ofNat n => rw [show n = 0 from Nat.eq_of_beq_eq_true h]; rfl
  | negSucc n => cases h
theorem zI0_no {z : Int} (h : zI0 z = false) : z ≠ 0 := fun e => by
  subst e
  cases h
def zIn (z : Int) : Bool := match z with
  | .ofNat _ => true
  | .negSucc _ => false
theorem zIn_of {z : Int} (h : zIn z = true) : 0 ≤ z := by
  cases z with
  | ofNat n => exact Int.natCast_nonneg n
  | negSucc n => cases h
def zIe (a b : Int) : Bool := match a, b with
  | .ofNat m, .ofNat n => Nat.beq m n
  | .negSucc m, .negSucc n => Nat.beq m n
  | _, _ => false
theorem zIe_of {a b : Int} (h : zIe a b = true) : a = b := by
  cases a <;> cases b
  · rw [Nat.eq_of_beq_eq_true h]
  · cases h
  · cases h
  · rw [Nat.eq_of_beq_eq_true h]
theorem beqN {a b : Nat} (h : Nat.beq a b = true) : a = b := Nat.eq_of_beq_eq_true h
theorem beqN_no {a b : Nat} (h : Nat.beq a b = false) : a ≠ b := fun e => by
  rw [e, Nat.beq_refl] at h
  cases h
theorem andB {x y : Bool} (h : (x && y) = true) : x = true ∧ y = true := by
  rw [Bool.and_eq_true] at h
  exact h
def zins (v : Nat) (k : Int) : List (Nat × Int) → List (Nat × Int)
  | [] => [(v, k)]
  | q :: r => bif Nat.beq v q.1 then (bif zI0 (k + q.2) then r else (v, k + q.2) :: r) else bif Nat.blt v q.1 then (v, k) :: q :: r else q :: zins v k r
theorem zins_v (ρ : Nat → Int) (v : Nat) (k : Int) : ∀ l : List (Nat × Int), zl ρ (zins v k l) = k * ρ v + zl ρ l
  | [] => rfl
  | q :: r => by
    unfold zins
    cases e : Nat.beq v q.1 with
    | true =>
      have e := beqN e
      cases e2 : zI0 (k + q.2) with
      | true =>
        have := zI0_of e2
        show zl ρ r = k * ρ v + (q.2 * ρ q.1 + zl ρ r)
        have : k * ρ v + q.2 * ρ q.1 = 0 := by rw [e, ← Int.add_mul, this, Int.zero_mul]
        omega
      | false =>
        show (k + q.2) * ρ v + zl ρ r = k * ρ v + (q.2 * ρ q.1 + zl ρ r)
        rw [Int.add_mul, e]
        omega
    | false =>
      cases e2 : Nat.blt v q.1 with
      | true => rfl
      | false =>
        show q.2 * ρ q.1 + zl ρ (zins v k r) = k * ρ v + (q.2 * ρ q.1 + zl ρ r)
        rw [zins_v ρ v k r]
        omega
def zla : List (Nat × Int) → List (Nat × Int) → List (Nat × Int)
  | [], l => l
  | q :: r, l => zins q.1 q.2 (zla r l)
theorem zla_v (ρ : Nat → Int) : ∀ a b : List (Nat × Int), zl ρ (zla a b) = zl ρ a + zl ρ b
  | [], b => (Int.zero_add _).symm
  | q :: r, b => by
    show zl ρ (zins q.1 q.2 (zla r b)) = q.2 * ρ q.1 + zl ρ r + zl ρ b
    rw [zins_v, zla_v ρ r b]
    omega
def zls (k : Int) : List (Nat × Int) → List (Nat × Int)
  | [] => []
  | q :: r => (q.1, k * q.2) :: zls k r
theorem zls_v (ρ : Nat → Int) (k : Int) : ∀ a : List (Nat × Int), zl ρ (zls k a) = k * zl ρ a
  | [] => (Int.mul_zero _).symm
  | q :: r => by
    show k * q.2 * ρ q.1 + zl ρ (zls k r) = k * (q.2 * ρ q.1 + zl ρ r)
    rw [zls_v ρ k r, Int.mul_add, Int.mul_assoc]
def zadd (a b : ZT) : ZT := (a.1 + b.1, zla a.2 b.2)
theorem zadd_v (ρ : Nat → Int) (a b : ZT) : zv ρ (zadd a b) = zv ρ a + zv ρ b := by
  unfold zv zadd
  rw [zla_v]
  omega
def zsm (k : Int) (a : ZT) : ZT := bif zI0 k then (0, []) else (k * a.1, zls k a.2)
theorem zsm_v (ρ : Nat → Int) (k : Int) (a : ZT) : zv ρ (zsm k a) = k * zv ρ a := by
  unfold zsm
  cases e : zI0 k with
  | true =>
    show zv ρ (0, []) = k * zv ρ a
    rw [zI0_of e, Int.zero_mul]
    rfl
  | false =>
    unfold zv
    show k * a.1 + zl ρ (zls k a.2) = _
    rw [zls_v, Int.mul_add]
def zsb (a b : ZT) : ZT := zadd (zsm (-1) b) a
theorem zsb_v (ρ : Nat → Int) (a b : ZT) : zv ρ (zsb a b) = zv ρ a - zv ρ b := by
  unfold zsb
  rw [zadd_v, zsm_v]
  omega
def zc (z : Int) : ZT := (z, [])
def zx (n : Nat) : ZT := (0, [(n, 1)])
theorem zc_v (ρ : Nat → Int) (z : Int) : zv ρ (zc z) = z := Int.add_zero z
theorem zx_v (ρ : Nat → Int) (n : Nat) : zv ρ (zx n) = ρ n := by
  show 0 + (1 * ρ n + 0) = ρ n
  omega
/-- one more, or less -/
def zpl (a : ZT) (k : Int) : ZT := (a.1 + k, a.2)
theorem zpl_v (ρ : Nat → Int) (a : ZT) (k : Int) : zv ρ (zpl a k) = zv ρ a + k := by
  show a.1 + k + zl ρ a.2 = a.1 + zl ρ a.2 + k
  omega
def zleq : List (Nat × Int) → List (Nat × Int) → Bool
  | [], [] => true
  | q :: r, p :: s => Nat.beq q.1 p.1 && (zIe q.2 p.2 && zleq r s)
  | _, _ => false
theorem zleq_of : ∀ {a b : List (Nat × Int)}, zleq a b = true → a = b
  | [], [], _ => rfl
  | q :: r, p :: s, h => by
    obtain ⟨h1, h2⟩ := andB h
    obtain ⟨h2, h3⟩ := andB h2
    rw [zleq_of h3]
    obtain ⟨q1, q2⟩ := q
    obtain ⟨p1, p2⟩ := p
    have h1 : q1 = p1 := beqN h1
    have h2 : q2 = p2 := zIe_of h2
    rw [h1, h2]
  | [], _ :: _, h => by cases h
  | _ :: _, [], h => by cases h
def zeq (a b : ZT) : Bool := zIe a.1 b.1 && zleq a.2 b.2
theorem zeq_of {a b : ZT} (h : zeq a b = true) : a = b := by
  obtain ⟨h1, h2⟩ := andB h
  obtain ⟨a1, a2⟩ := a
  obtain ⟨b1, b2⟩ := b
  have h1 : a1 = b1 := zIe_of h1
  have h2 : a2 = b2 := zleq_of h2
  rw [h1, h2]
theorem zv_cg {ρ ρ' : Nat → Int} {t : ZT} (h : ∀ q ∈ t.2, ρ' q.1 = ρ q.1) : zv ρ' t = zv ρ t := by
  have key : ∀ l : List (Nat × Int), (∀ q ∈ l, ρ' q.1 = ρ q.1) → zl ρ' l = zl ρ l := by
    intro l
    induction l with
    | nil => exact fun _ => rfl
    | cons q r ih =>
      intro h
      show q.2 * ρ' q.1 + zl ρ' r = q.2 * ρ q.1 + zl ρ r
      rw [h q List.mem_cons_self, ih fun p hp => h p (List.mem_cons_of_mem _ hp)]
  unfold zv
  rw [key t.2 h]
def zanyV (f : Nat → Bool) : List (Nat × Int) → Bool
  | [] => false
  | q :: r => f q.1 || zanyV f r
theorem zanyV_no {f : Nat → Bool} : ∀ {l : List (Nat × Int)}, zanyV f l = false → ∀ q ∈ l, f q.1 = false
  | [], _, q, hq => absurd hq List.not_mem_nil
  | p :: r, h, q, hq => by
    unfold zanyV at h
    rw [Bool.or_eq_false_iff] at h
    rcases List.mem_cons.mp hq with e | e
    · exact e ▸ h.1
    · exact zanyV_no h.2 q e
/-- a variable of this kind is in it -/
def zoc (f : Nat → Bool) (t : ZT) : Bool := zanyV f t.2
theorem zoc_no {f : Nat → Bool} {ρ ρ' : Nat → Int} {t : ZT} (h : zoc f t = false) (k : ∀ v, f v = false → ρ' v = ρ v) : zv ρ' t = zv ρ t := zv_cg fun q hq => k q.1 (zanyV_no h q hq)
def zup (ρ : Nat → Int) (n : Nat) (z : Int) : Nat → Int := fun v => bif Nat.beq n v then z else ρ v
theorem zup_at (ρ : Nat → Int) (n : Nat) (z : Int) : zup ρ n z n = z := by
  unfold zup
  rw [Nat.beq_refl]
  rfl
theorem zup_no (ρ : Nat → Int) {n v : Nat} (z : Int) (h : Nat.beq n v = false) : zup ρ n z v = ρ v := by
  unfold zup
  rw [h]
  rfl
/-- substitution -/
def zslk : List (Nat × ZT) → Nat → ZT
  | [], v => zx v
  | q :: r, v => bif Nat.beq q.1 v then q.2 else zslk r v
def zsl (σ : List (Nat × ZT)) : List (Nat × Int) → ZT
  | [] => (0, [])
  | q :: r => zadd (zsm q.2 (zslk σ q.1)) (zsl σ r)
def zS (σ : List (Nat × ZT)) (t : ZT) : ZT := zpl (zsl σ t.2) t.1
def zσ (σ : List (Nat × ZT)) (ρ : Nat → Int) : Nat → Int := fun v => zv ρ (zslk σ v)
theorem zS_v (σ : List (Nat × ZT)) (ρ : Nat → Int) (t : ZT) : zv ρ (zS σ t) = zv (zσ σ ρ) t := by
  have : ∀ l, zv ρ (zsl σ l) = zl (zσ σ ρ) l := by
    intro l
    induction l with
    | nil => rfl
    | cons q r ih =>
      show zv ρ (zadd (zsm q.2 (zslk σ q.1)) (zsl σ r)) = q.2 * zσ σ ρ q.1 + zl (zσ σ ρ) r
      rw [zadd_v, zsm_v, ih]
      rfl
  unfold zS
  rw [zpl_v, this]
  unfold zv
  omega
theorem zσ_no {σ : List (Nat × ZT)} {ρ : Nat → Int} {v : Nat} (h : (σ.any fun q => Nat.beq q.1 v) = false) : zσ σ ρ v = ρ v := by
  unfold zσ
  induction σ with
  | nil => exact zx_v ρ v
  | cons q r ih =>
    rw [List.any_cons, Bool.or_eq_false_iff] at h
    show zv ρ (bif Nat.beq q.1 v then q.2 else zslk r v) = _
    rw [h.1]
    exact ih h.2
/-- the n-th of a list -/
def zget {α : Type} : List α → Nat → Option α
  | [], _ => none
  | x :: r, n => bif Nat.beq n 0 then some x else zget r (n - 1)
theorem zget_mem {α : Type} : ∀ {l : List α} {n : Nat} {x : α}, zget l n = some x → x ∈ l
  | [], n, x, h => by cases h
  | y :: r, n, x, h => by
    unfold zget at h
    cases e : Nat.beq n 0 with
    | true => rw [e] at h; cases h; exact List.mem_cons_self
    | false => rw [e] at h; exact List.mem_cons_of_mem _ (zget_mem h)
/-- facts, so many times each, taken from a term -/
def zcm (F : List ZT) : List (Nat × Nat) → ZT → Option ZT
  | [], g => some g
  | q :: r, g => match zget F q.1 with
    | some f => zcm F r (zadd (zsm (Int.neg (Int.ofNat q.2)) f) g)
    | none => none
theorem zcm_of {F : List ZT} {ρ : Nat → Int} (hF : ∀ f ∈ F, 0 ≤ zv ρ f) : ∀ {c : List (Nat × Nat)} {g g' : ZT}, zcm F c g = some g' → zv ρ g' ≤ zv ρ g
  | [], g, g', h => by cases h; exact Int.le_refl _
  | q :: r, g, g', h => by
    unfold zcm at h
    split at h
    · next f hf =>
      have k := zcm_of hF h
      have p := hF f (zget_mem hf)
      rw [zadd_v, zsm_v] at k
      have : Int.neg (Int.ofNat q.2) * zv ρ f ≤ 0 := by
        show -((q.2 : Nat) : Int) * zv ρ f ≤ 0
        rw [Int.neg_mul]
        have := Int.mul_nonneg (Int.natCast_nonneg q.2) p
        omega
      omega
    · cases h
/-- how a proof is told: by how much all is multiplied, then facts with how often -/
abbrev ZP : Type := Nat × List (Nat × Nat)
def zcert (F : List ZT) (c : ZP) (g : ZT) : Bool := match zcm F c.2 (bif Nat.beq c.1 1 then g else zsm (Int.ofNat c.1) g) with
  | some (k, []) => zIn (k + Int.ofNat (c.1 - 1)) && Nat.blt 0 c.1
  | _ => false
theorem zcert_of {F : List ZT} {ρ : Nat → Int} (hF : ∀ f ∈ F, 0 ≤ zv ρ f) {c : ZP} {g : ZT} (h : zcert F c g = true) : 0 ≤ zv ρ g := by
  unfold zcert at h
  split at h
  · next k e =>
    obtain ⟨h1, h2⟩ := andB h
    have h2 : 0 < c.1 := Nat.le_of_ble_eq_true h2
    have k0 := zcm_of hF e
    have h1 := zIn_of h1
    have kz : zv ρ (k, []) = k := zc_v ρ k
    have hd : zv ρ (bif Nat.beq c.1 1 then g else zsm (Int.ofNat c.1) g) = ((c.1 : Nat) : Int) * zv ρ g := by
      cases e1 : Nat.beq c.1 1 with
      | true =>
        rw [beqN e1]
        show zv ρ g = 1 * zv ρ g
        omega
      | false => exact zsm_v _ _ _
    rw [hd, kz] at k0
    refine Int.not_lt.mp fun n => ?_
    have h3 : zv ρ g ≤ -1 := by omega
    have h4 : ((c.1 : Nat) : Int) * zv ρ g ≤ ((c.1 : Nat) : Int) * -1 := Int.mul_le_mul_of_nonneg_left h3 (Int.natCast_nonneg _)
    have h5 : (Int.ofNat (c.1 - 1)) = ((c.1 : Nat) : Int) - 1 := by
      show ((c.1 - 1 : Nat) : Int) = _
      omega
    rw [h5] at h1
    omega
  · cases h
/-- numbers out of one number, sixteen bits each; the greatest one says that a long one follows -/
def zunp : Nat → Nat → List Nat
  | 0, _ => []
  | f + 1, n => bif Nat.beq n 0 then [] else bif Nat.beq (n % 65536) 65535 then ((n / 65536) % 79228162514264337593543950336) :: zunp f (n / 5192296858534827628530496329220096) else (n % 65536) :: zunp f (n / 65536)
def zzg (n : Nat) : Int := bif Nat.beq (n % 2) 0 then Int.ofNat (n / 2) else Int.negSucc (n / 2)
def rdP : Nat → List Nat → List (Nat × Int) × List Nat
  | 0, r => ([], r)
  | n + 1, v :: k :: r => match rdP n r with
    | (a, b) => ((v, zzg k) :: a, b)
  | _ + 1, r => ([], r)
def rdT (r : List Nat) : ZT × List Nat := match r with
  | c :: m :: r => (match rdP m r with
    | (a, b) => ((zzg c, a), b))
  | _ => ((0, []), [])
def rdQ : Nat → List Nat → List (Nat × Nat) × List Nat
  | 0, r => ([], r)
  | n + 1, v :: k :: r => match rdQ n r with
    | (a, b) => ((v, k) :: a, b)
  | _ + 1, r => ([], r)
def rdC (r : List Nat) : ZP × List Nat := match r with
  | d :: m :: r => (match rdQ m r with
    | (a, b) => ((d, a), b))
  | _ => ((0, []), [])
def rdCs : Nat → List Nat → List ZP × List Nat
  | 0, r => ([], r)
  | n + 1, r => match rdC r with
    | (c, r) => (match rdCs n r with
      | (a, b) => (c :: a, b))
def rdTs : Nat → List Nat → List ZT × List Nat
  | 0, r => ([], r)
  | n + 1, r => match rdT r with
    | (c, r) => (match rdTs n r with
      | (a, b) => (c :: a, b))
def rdNs : Nat → List Nat → List Nat × List Nat
  | 0, r => ([], r)
  | n + 1, v :: r => match rdNs n r with
    | (a, b) => (v :: a, b)
  | _ + 1, [] => ([], [])
/-- all of these are proved, one proof each -/
def zcerts (F : List ZT) : List ZP → List ZT → Bool
  | _, [] => true
  | c :: cs, g :: gs => zcert F c g && zcerts F cs gs
  | [], _ :: _ => false
theorem zcerts_of {F : List ZT} {ρ : Nat → Int} (hF : ∀ f ∈ F, 0 ≤ zv ρ f) : ∀ {cs : List ZP} {gs : List ZT}, zcerts F cs gs = true → ∀ g ∈ gs, 0 ≤ zv ρ g
  | _, [], _, g, hg => absurd hg List.not_mem_nil
  | c :: cs, x :: gs, h, g, hg => by
    obtain ⟨h1, h2⟩ := andB h
    rcases List.mem_cons.mp hg with e | e
    · exact e ▸ zcert_of hF h1
    · exact zcerts_of hF h2 g e
  | [], _ :: _, h, _, _ => by cases h
