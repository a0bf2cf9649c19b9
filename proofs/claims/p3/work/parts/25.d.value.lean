/-! states; what is computed on the stack -/
theorem m_sh32 : ∀ s : Nat, s < 32 → ((Int32.ofInt (s : Int) &&& 31).toBitVec.smod 32).toNat = s := by decide +kernel
theorem m_sh64 : ∀ s : Nat, s < 64 → (((Int32.ofInt (s : Int)).toInt64 &&& 63).toBitVec.smod 64).toNat = s := by decide +kernel
theorem m_shrN {x b : Int} (n : Nat) (h1 : 0 ≤ x) (h2 : x ≤ b) : 0 ≤ x >>> n ∧ x >>> n ≤ b := by
  rw [Int.shiftRight_eq_div_pow]
  have p : (0 : Int) < ((2 ^ n : Nat) : Int) := by exact_mod_cast Nat.pow_pos (by decide)
  exact ⟨Int.ediv_nonneg h1 (by omega), Int.le_trans (Int.ediv_le_self _ h1) h2⟩
theorem m_shrP (x : Int) (n : Nat) : (x >>> n) * 2 ^ n ≤ x ∧ x ≤ (x >>> n) * 2 ^ n + (2 ^ n - 1) := by
  rw [Int.shiftRight_eq_div_pow]
  have p : (0 : Int) < ((2 ^ n : Nat) : Int) := by exact_mod_cast Nat.pow_pos (by decide)
  have e : ((2 ^ n : Nat) : Int) = 2 ^ n := by exact_mod_cast rfl
  rw [e] at p ⊢
  have h1 := Int.emod_add_mul_ediv x (2 ^ n)
  have h2 := Int.emod_nonneg x (b := 2 ^ n) (by omega)
  have h3 := Int.emod_lt_of_pos x p
  have h4 : x / 2 ^ n * 2 ^ n = 2 ^ n * (x / 2 ^ n) := Int.mul_comm _ _
  omega
theorem m_ishlC {X : Int} {s : Nat} (hs : s < 32) (h0 : 0 ≤ X) (h1 : X * 2 ^ s ≤ 2147483647) : (Int32.ofInt X <<< (Int32.ofInt (s : Int) &&& 31)).toInt = X * 2 ^ s := by
  have h2 : X ≤ X * 2 ^ s := by
    have : X * 1 ≤ X * 2 ^ s := Int.mul_le_mul_of_nonneg_left (by exact_mod_cast Nat.pow_pos (by decide)) h0
    omega
  show ((Int32.ofInt X).toBitVec <<< ((Int32.ofInt (s : Int) &&& 31).toBitVec.smod 32)).toInt = _
  rw [BitVec.shiftLeft_eq', m_sh32 s hs, BitVec.toInt_shiftLeft]
  have e : (Int32.ofInt X).toBitVec.toNat = X.toNat := by
    show (BitVec.ofInt 32 X).toNat = _
    rw [BitVec.toNat_ofInt, Int.emod_eq_of_lt h0 (by omega)]
  rw [e, Nat.shiftLeft_eq, Int.natCast_mul, Int.natCast_pow, Int.toNat_of_nonneg h0]
  have e2 : ((2 : Nat) : Int) = 2 := rfl
  rw [e2]
  generalize X * 2 ^ s = Z at *
  exact Int.bmod_eq_of_le (by omega) (by omega)
theorem m_lshlC {X : Int} {s : Nat} (hs : s < 64) (h0 : 0 ≤ X) (h1 : X * 2 ^ s ≤ 9223372036854775807) : (Int64.ofInt X <<< ((Int32.ofInt (s : Int)).toInt64 &&& 63)).toInt = X * 2 ^ s := by
  have h2 : X ≤ X * 2 ^ s := by
    have : X * 1 ≤ X * 2 ^ s := Int.mul_le_mul_of_nonneg_left (by exact_mod_cast Nat.pow_pos (by decide)) h0
    omega
  show ((Int64.ofInt X).toBitVec <<< (((Int32.ofInt (s : Int)).toInt64 &&& 63).toBitVec.smod 64)).toInt = _
  rw [BitVec.shiftLeft_eq', m_sh64 s hs, BitVec.toInt_shiftLeft]
  have e : (Int64.ofInt X).toBitVec.toNat = X.toNat := by
    show (BitVec.ofInt 64 X).toNat = _
    rw [BitVec.toNat_ofInt, Int.emod_eq_of_lt h0 (by omega)]
  rw [e, Nat.shiftLeft_eq, Int.natCast_mul, Int.natCast_pow, Int.toNat_of_nonneg h0]
  have e2 : ((2 : Nat) : Int) = 2 := rfl
  rw [e2]
  generalize X * 2 ^ s = Z at *
  exact Int.bmod_eq_of_le (by omega) (by omega)
abbrev ZLs : Type := List (Nat × Nat × ZT)
abbrev ZSs : Type := List (Nat × ZT)
abbrev ZSt : Type := ZLs × ZSs × ZK
def zL (ρ : Nat → Int) (l : ZLs) : List (Nat × MV) := l.map fun q => (q.1, (q.2.1, zv ρ q.2.2))
def zSk (ρ : Nat → Int) (l : ZSs) : List MV := l.map fun q => (q.1, zv ρ q.2)
def zocL (f : Nat → Bool) (l : ZLs) : Bool := l.any fun q => zoc f q.2.2
def zocS (f : Nat → Bool) (l : ZSs) : Bool := l.any fun q => zoc f q.2
theorem zL_cg {f : Nat → Bool} {ρ ρ' : Nat → Int} {l : ZLs} (h : zocL f l = false) (k : ∀ v, f v = false → ρ' v = ρ v) : zL ρ' l = zL ρ l := by
  unfold zL
  refine List.map_congr_left fun q hq => ?_
  rw [zoc_no (anyF h q hq) k]
theorem zSk_cg {f : Nat → Bool} {ρ ρ' : Nat → Int} {l : ZSs} (h : zocS f l = false) (k : ∀ v, f v = false → ρ' v = ρ v) : zSk ρ' l = zSk ρ l := by
  unfold zSk
  refine List.map_congr_left fun q hq => ?_
  rw [zoc_no (anyF h q hq) k]
/-- a number that is free for a new variable -/
def zfr (lo : Nat) (s : ZSt) (n : Nat) : Bool := Nat.ble lo n && !(zocL (Nat.beq n) s.1 || (zocS (Nat.beq n) s.2.1 || zocK (Nat.beq n) s.2.2))
theorem zfr_of {lo n : Nat} {s : ZSt} (h : zfr lo s n = true) : lo ≤ n ∧ zocL (Nat.beq n) s.1 = false ∧ zocS (Nat.beq n) s.2.1 = false ∧ zocK (Nat.beq n) s.2.2 = false := by
  obtain ⟨h1, h2⟩ := andB h
  obtain ⟨h2, h3⟩ := orF (notB h2)
  obtain ⟨h3, h4⟩ := orF h3
  exact ⟨bleN h1, h2, h3, h4⟩
/-- a new value lies on the stack, in the place of what was taken; the rest is as it was, but for one new variable -/
def VOk (G : ZG) (lo : Nat) (ρ : Nat → Int) (h : MH) (s s' : ZSt) (rest : ZSs) (tag : Nat) (z : Int) : Prop := ∃ ρ', (∀ v, v < lo → ρ' v = ρ v) ∧ Kn G ρ' h s'.2.2 ∧ zL ρ' s'.1 = zL ρ s.1 ∧ zSk ρ' s'.2.1 = (tag, z) :: zSk ρ rest
def zpush (s : ZSt) (rest : ZSs) (tag : Nat) (t : ZT) : ZSt := (s.1, (tag, t) :: rest, s.2.2)
def zfresh (lo : Nat) (s : ZSt) (rest : ZSs) (tag n : Nat) (t : ZT) (fs : List ZT) (ds : List (List ZT)) : Option ZSt := bif zfr lo s n then some (s.1, (tag, t) :: rest, (fs ++ s.2.2.1, ds ++ s.2.2.2.1, s.2.2.2.2)) else none
section VO
variable {G : ZG} {lo : Nat} {ρ : Nat → Int} {h : MH} {s s' : ZSt} {rest : ZSs} {tag : Nat}
theorem zpush_of (B : Kn G ρ h s.2.2) {t : ZT} {z : Int} (e : zv ρ t = z) : VOk G lo ρ h s (zpush s rest tag t) rest tag z := ⟨ρ, fun _ _ => rfl, B, rfl, by subst e; rfl⟩
theorem zfresh_of (B : Kn G ρ h s.2.2) (hr : ∀ q ∈ rest, q ∈ s.2.1) {n : Nat} {t : ZT} {fs : List ZT} {ds : List (List ZT)} (e : zfresh lo s rest tag n t fs ds = some s') (z z' : Int)
    (k : (∀ q ∈ s.2.1, zv (zup ρ n z') q.2 = zv ρ q.2) → zv (zup ρ n z') t = z ∧ (∀ f ∈ fs, 0 ≤ zv (zup ρ n z') f) ∧ ∀ d ∈ ds, ∃ f ∈ d, 0 ≤ zv (zup ρ n z') f) : VOk G lo ρ h s s' rest tag z := by
  unfold zfresh at e
  cases e1 : zfr lo s n with
  | false => rw [e1] at e; cases e
  | true =>
    rw [e1] at e
    cases e
    obtain ⟨h1, h2, h3, h4⟩ := zfr_of e1
    have hs : ∀ q ∈ s.2.1, zv (zup ρ n z') q.2 = zv ρ q.2 := fun q hq => zoc_up (anyF h3 q hq)
    obtain ⟨k1, k2, k3⟩ := k hs
    have B' := B.up z' h4
    refine ⟨zup ρ n z', fun v hv => zup_no ρ _ ?_, ⟨fun f hf => (List.mem_append.mp hf).elim (k2 f) (B'.1 f), fun d hd => (List.mem_append.mp hd).elim (k3 d) (B'.2.1 d), B'.2.2⟩, zL_cg h2 fun _ hv => zup_no ρ _ hv, ?_⟩
    · cases w : Nat.beq n v with
      | false => rfl
      | true => have := beqN w; omega
    · show (tag, zv (zup ρ n z') t) :: zSk (zup ρ n z') rest = _
      rw [k1]
      congr 1
      unfold zSk
      refine List.map_congr_left fun q hq => ?_
      rw [hs q (hr q hq)]
end VO
def tlo (t : Nat) : Int := match t with
  | 0 => -2147483648
  | _ => -9223372036854775808
def thi (t : Nat) : Int := match t with
  | 0 => 2147483647
  | _ => 9223372036854775807
def twr (t : Nat) (z : Int) : Int := match t with
  | 0 => wrI z
  | _ => wrL z
theorem twr_rng (t : Nat) (z : Int) : tlo t ≤ twr t z ∧ twr t z ≤ thi t := by
  match t with
  | 0 => exact wrI_rng z
  | t + 1 => exact wrL_rng z
theorem twr_id {t : Nat} {z : Int} (a : tlo t ≤ z) (b : z ≤ thi t) : twr t z = z := by
  match t, a, b with
  | 0, a, b => exact wrI_id ⟨a, b⟩
  | t + 1, a, b => exact wrL_id ⟨a, b⟩
/-- t lies in the range of its kind -/
def zrng (F : List ZT) (tag : Nat) (t : ZT) (k : List Nat) : Option (List Nat) := match t.2 with
  | [] => bif zIn (t.1 - tlo tag) && zIn (thi tag - t.1) then some k else none
  | _ => (match rdC k with
    | (c1, k) => (match rdC k with
      | (c2, k) => bif zcert F c1 (zpl t (-(tlo tag))) && zcert F c2 (zsb (zc (thi tag)) t) then some k else none))
theorem zrng_of {F : List ZT} {ρ : Nat → Int} (hF : ∀ f ∈ F, 0 ≤ zv ρ f) {tag : Nat} {t : ZT} {k k' : List Nat} (h : zrng F tag t k = some k') : tlo tag ≤ zv ρ t ∧ zv ρ t ≤ thi tag := by
  unfold zrng at h
  split at h
  · next e =>
    cases e2 : (zIn (t.1 - tlo tag) && zIn (thi tag - t.1)) with
    | false => rw [e2] at h; cases h
    | true =>
      obtain ⟨h1, h2⟩ := andB e2
      have h1 := zIn_of h1
      have h2 := zIn_of h2
      have : zv ρ t = t.1 := by
        unfold zv
        rw [e]
        exact Int.add_zero _
      rw [this]
      omega
  · split at h
    next c1 k1 e1 =>
    split at h
    next c2 k2 e2 =>
    cases e3 : (zcert F c1 (zpl t (-(tlo tag))) && zcert F c2 (zsb (zc (thi tag)) t)) with
    | false => rw [e3] at h; cases h
    | true =>
      obtain ⟨h1, h2⟩ := andB e3
      have h1 := zcert_of hF h1
      have h2 := zcert_of hF h2
      rw [zpl_v] at h1
      rw [zsb_v, zc_v] at h2
      omega
/-- 0 +, 1 -, 2 times -/
def zop (o : Nat) (x y : ZT) : Option ZT := match o with
  | 0 => some (zadd x y)
  | 1 => some (zsb x y)
  | _ => (match x.2, y.2 with
    | [], _ => some (zsm x.1 y)
    | _, [] => some (zsm y.1 x)
    | _, _ => none)
def fop (o : Nat) (x y : Int) : Int := match o with
  | 0 => x + y
  | 1 => x - y
  | _ => x * y
theorem zop_of {o : Nat} {x y t : ZT} (e : zop o x y = some t) (ρ : Nat → Int) : zv ρ t = fop o (zv ρ x) (zv ρ y) := by
  match o, e with
  | 0, e => cases e; exact zadd_v ρ x y
  | 1, e => cases e; exact zsb_v ρ x y
  | o + 2, e =>
    unfold zop at e
    obtain ⟨x1, x2⟩ := x
    obtain ⟨y1, y2⟩ := y
    cases x2 with
    | nil =>
      cases e
      rw [zsm_v, show zv ρ (x1, []) = x1 from zc_v ρ x1]
      rfl
    | cons p r =>
      cases y2 with
      | nil =>
        cases e
        rw [zsm_v, show zv ρ (y1, []) = y1 from zc_v ρ y1]
        exact Int.mul_comm _ _
      | cons => cases e
/-- facts of a product: (a x + c) (b y + d), both not below 0 -/
def zprods (F : List ZT) (x y p : ZT) : Nat → List Nat → Option (List ZT × List Nat)
  | 0, k => some ([], k)
  | m + 1, a :: c :: b :: d :: k => (match rdC k with
    | (c1, k) => (match rdC k with
      | (c2, k) => bif zcert F c1 (zpl (zsm (zzg a) x) (zzg c)) && zcert F c2 (zpl (zsm (zzg b) y) (zzg d)) then (match zprods F x y p m k with
        | some (l, k) => some (zpl (zadd (zsm (zzg a * zzg b) p) (zadd (zsm (zzg a * zzg d) x) (zsm (zzg c * zzg b) y))) (zzg c * zzg d) :: l, k)
        | none => none) else none))
  | _ + 1, _ => none
theorem zprods_of {F : List ZT} {ρ ρ' : Nat → Int} (hF : ∀ f ∈ F, 0 ≤ zv ρ f) {x y p : ZT} (hx : zv ρ' x = zv ρ x) (hy : zv ρ' y = zv ρ y) (hp : zv ρ' p = zv ρ x * zv ρ y) : ∀ {m : Nat} {k k' : List Nat} {l : List ZT}, zprods F x y p m k = some (l, k') → ∀ f ∈ l, 0 ≤ zv ρ' f
  | 0, k, k', l, e, f, hf => by cases e; exact absurd hf List.not_mem_nil
  | m + 1, a :: c :: b :: d :: k, k', l, e, f, hf => by
    unfold zprods at e
    split at e
    next c1 k1 e1 =>
    split at e
    next c2 k2 e2 =>
    cases e3 : (zcert F c1 (zpl (zsm (zzg a) x) (zzg c)) && zcert F c2 (zpl (zsm (zzg b) y) (zzg d))) with
    | false => rw [e3] at e; cases e
    | true =>
      rw [e3] at e
      replace e : (match zprods F x y p m k2 with
        | some (l, k) => some (zpl (zadd (zsm (zzg a * zzg b) p) (zadd (zsm (zzg a * zzg d) x) (zsm (zzg c * zzg b) y))) (zzg c * zzg d) :: l, k)
        | none => none) = some (l, k') := e
      split at e
      · next l1 k3 e4 =>
        cases e
        rcases List.mem_cons.mp hf with w | w
        · subst w
          obtain ⟨h1, h2⟩ := andB e3
          have h1 := zcert_of hF h1
          have h2 := zcert_of hF h2
          rw [zpl_v, zsm_v] at h1 h2
          have h3 := Int.mul_nonneg h1 h2
          rw [zpl_v, zadd_v, zadd_v, zsm_v, zsm_v, zsm_v, hx, hy, hp]
          generalize zv ρ x = X at *
          generalize zv ρ y = Y at *
          generalize zzg a = A at *
          generalize zzg b = B' at *
          generalize zzg c = C at *
          generalize zzg d = D at *
          have e5 : (A * X + C) * (B' * Y + D) = A * B' * (X * Y) + (A * D * X + C * B' * Y) + C * D := by grind
          rw [e5] at h3
          exact h3
        · exact zprods_of hF hx hy hp e4 f w
      · cases e
  | m + 1, [], k', l, e, f, hf => by cases e
  | m + 1, [_], k', l, e, f, hf => by cases e
  | m + 1, [_, _], k', l, e, f, hf => by cases e
  | m + 1, [_, _, _], k', l, e, f, hf => by cases e
def rngF (tag : Nat) (t : ZT) : List ZT := [zpl t (-(tlo tag)), zsb (zc (thi tag)) t]
theorem rngF_of {ρ : Nat → Int} {tag : Nat} {t : ZT} (a : tlo tag ≤ zv ρ t) (b : zv ρ t ≤ thi tag) : ∀ f ∈ rngF tag t, 0 ≤ zv ρ f := fun f hf => by
  rcases List.mem_cons.mp hf with e | e
  · rw [e, zpl_v]; omega
  · rw [List.mem_singleton.mp e, zsb_v, zc_v]; omega
/-- sums, differences, products: exactly (0), lost (1), lost within its range (2), a product by its bounds (3) -/
def xAr (lo tag o : Nat) (s : ZSt) (x y : ZT) (rest : ZSs) (k : List Nat) : Option (ZSt × List Nat) := match k with
  | 0 :: k => (match zop o x y with
    | some t => (match zrng s.2.2.1 tag t k with
      | some k => some (zpush s rest tag t, k)
      | none => none)
    | none => none)
  | 1 :: n :: k => (match zfresh lo s rest tag n (zx n) [] [] with
    | some s' => some (s', k)
    | none => none)
  | 2 :: n :: k => (match zfresh lo s rest tag n (zx n) (rngF tag (zx n)) [] with
    | some s' => some (s', k)
    | none => none)
  | 3 :: n :: m :: k => bif Nat.beq o 2 then (match zprods s.2.2.1 x y (zx n) m k with
    | some (l, k) => (match zfresh lo s rest tag n (zx n) l [] with
      | some s' => (match zrng s'.2.2.1 tag (zx n) k with
        | some k => some (s', k)
        | none => none)
      | none => none)
    | none => none) else none
  | _ => none
theorem noD {ρ : Nat → Int} : ∀ d ∈ ([] : List (List ZT)), ∃ f ∈ d, 0 ≤ zv ρ f := fun d hd => absurd hd List.not_mem_nil
theorem noF {ρ : Nat → Int} : ∀ f ∈ ([] : List ZT), 0 ≤ zv ρ f := fun d hd => absurd hd List.not_mem_nil
theorem zxu (ρ : Nat → Int) (n : Nat) (z : Int) : zv (zup ρ n z) (zx n) = z := by rw [zx_v, zup_at]
section VA
variable {G : ZG} {lo tag : Nat} {ρ : Nat → Int} {h : MH} {s s' : ZSt} {rest : ZSs} {x y : ZT} {k k' : List Nat}
theorem xAr_of {o tx ty : Nat} (B : Kn G ρ h s.2.2) (hS : s.2.1 = (ty, y) :: (tx, x) :: rest) (e : xAr lo tag o s x y rest k = some (s', k')) : VOk G lo ρ h s s' rest tag (twr tag (fop o (zv ρ x) (zv ρ y))) := by
  have hr : ∀ q ∈ rest, q ∈ s.2.1 := fun q hq => by rw [hS]; exact List.mem_cons_of_mem _ (List.mem_cons_of_mem _ hq)
  unfold xAr at e
  split at e
  · split at e
    · next t ht =>
      split at e
      · next k1 e1 =>
        cases e
        obtain ⟨a, b⟩ := zrng_of B.1 e1
        have := zop_of ht ρ
        rw [this] at a b
        exact zpush_of B (by rw [twr_id a b]; exact this)
      · cases e
    · cases e
  · next n k1 =>
    split at e
    · next s1 e1 =>
      cases e
      exact zfresh_of B hr e1 _ (twr tag (fop o (zv ρ x) (zv ρ y))) fun _ => ⟨zxu _ _ _, noF, noD⟩
    · cases e
  · next n k1 =>
    split at e
    · next s1 e1 =>
      cases e
      exact zfresh_of B hr e1 _ (twr tag (fop o (zv ρ x) (zv ρ y))) fun _ => ⟨zxu _ _ _, rngF_of (by rw [zxu]; exact (twr_rng _ _).1) (by rw [zxu]; exact (twr_rng _ _).2), noD⟩
    · cases e
  · next n m k1 =>
    cases e0 : Nat.beq o 2 with
    | false => rw [e0] at e; cases e
    | true =>
      rw [e0] at e
      have o2 := beqN e0
      subst o2
      replace e : (match zprods s.2.2.1 x y (zx n) m k1 with
        | some (l, k) => (match zfresh lo s rest tag n (zx n) l [] with
          | some s' => (match zrng s'.2.2.1 tag (zx n) k with
            | some k => some (s', k)
            | none => none)
          | none => none)
        | none => none) = some (s', k') := e
      split at e
      · next l k2 e1 =>
        split at e
        · next s1 e2 =>
          split at e
          · next k3 e3 =>
            cases e
            have v := zfresh_of (tag := tag) B hr e2 (zv ρ x * zv ρ y) (zv ρ x * zv ρ y) fun hq => ⟨zxu _ _ _, zprods_of B.1 (hq (tx, x) (by rw [hS]; exact List.mem_cons_of_mem _ List.mem_cons_self)) (hq (ty, y) (by rw [hS]; exact List.mem_cons_self)) (zxu _ _ _) e1, noD⟩
            obtain ⟨ρ', v1, v2, v3, v4⟩ := v
            have sn : s'.2.1 = (tag, zx n) :: rest := by
              unfold zfresh at e2
              cases w : zfr lo s n with
              | false => rw [w] at e2; cases e2
              | true => rw [w] at e2; cases e2; rfl
            have r := zrng_of v2.1 e3
            have vn : zv ρ' (zx n) = zv ρ x * zv ρ y := by
              rw [sn] at v4
              have : (tag, zv ρ' (zx n)) = (tag, zv ρ x * zv ρ y) := (List.cons.inj v4).1
              exact (Prod.mk.inj this).2
            rw [vn] at r
            refine ⟨ρ', v1, v2, v3, ?_⟩
            rw [v4]
            show (tag, zv ρ x * zv ρ y) :: _ = (tag, twr tag (zv ρ x * zv ρ y)) :: _
            rw [twr_id r.1 r.2]
          · cases e
        · cases e
      · cases e
  · cases e
end VA
