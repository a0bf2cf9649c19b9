/-! what the heap behind the constructors holds: told by numbers, looked up; clauses proved from it -/
abbrev ICl : Type := Nat × Nat × Nat × Nat × Nat × Nat × Int × Int × Int
/-- cells lo + st k for k from k1 to k2, places a to b (from 0 on, whichever, if b is 0 and a is 1): from d + e k to d2 + e k -/
def icC (q : ICl) : ZC := (0, [60901, 60902, 60903], [((1, 0, 1, 0), zadd (zsm (Int.ofNat q.2.1) (zx 60901)) (zc (Int.ofNat q.1)), zx 60902, zx 60903)], [zpl (zx 60901) (-(Int.ofNat q.2.2.1)), zsb (zc (Int.ofNat q.2.2.2.1)) (zx 60901), zpl (zx 60902) (-(Int.ofNat q.2.2.2.2.1)), zsb (zc (Int.ofNat q.2.2.2.2.2.1)) (zx 60902)], [zsb (zx 60903) (zadd (zsm q.2.2.2.2.2.2.2.2 (zx 60901)) (zc q.2.2.2.2.2.2.1)), zsb (zadd (zsm q.2.2.2.2.2.2.2.2 (zx 60901)) (zc q.2.2.2.2.2.2.2.1)) (zx 60903)])
def ibt (l h z : Int) : Bool := Nat.beq (l - z).toNat 0 && Nat.beq (z - h).toNat 0
theorem ibt_of {l h z : Int} (q : ibt l h z = true) : l ≤ z ∧ z ≤ h := by
  obtain ⟨a, b⟩ := andB q
  have a := beqN a
  have b := beqN b
  omega
def icV (p : CC) (a b : Nat) (d d2 : Int) : Bool := bif Nat.beq a b then (bif Nat.beq a 1099511627776 then ibt d d2 ((p.1 : Int) + 1) else bif Nat.beq a 1099511627777 then ibt d d2 (p.2.1 : Int) else Nat.blt a 1099511627776 && ibt d d2 (cvl p a)) else Nat.blt b 1099511627776 && ((match p.2.2.1 with
  | 0 => ibt d d2 0
  | 1 => ibt d d2 (-1)
  | _ => false) && p.2.2.2.all fun w => !(Nat.ble a w.1 && Nat.ble w.1 b) || ibt d d2 w.2)
theorem clk_all {a b : Nat} {d d2 : Int} {j : Nat} (ja : a ≤ j) (jb : j ≤ b) : ∀ {l : List (Nat × Int)}, (l.all fun w => !(Nat.ble a w.1 && Nat.ble w.1 b) || ibt d d2 w.2) = true → clk l j = none ∨ ∃ z, clk l j = some z ∧ d ≤ z ∧ z ≤ d2
  | [], _ => Or.inl rfl
  | w :: l, h => by
    obtain ⟨h1, h2⟩ := andB h
    unfold clk
    cases q : Nat.beq w.1 j with
    | false => exact clk_all ja jb h2
    | true =>
      have q := beqN q
      right
      replace h1 : (!(Nat.ble a w.1 && Nat.ble w.1 b) || ibt d d2 w.2) = true := h1
      rw [q] at h1
      rw [Nat.ble_eq_true_of_le ja, Nat.ble_eq_true_of_le jb] at h1
      exact ⟨_, rfl, ibt_of h1⟩
theorem icV_of {hb : MH} {H : CH} {c : Nat} {p : CC} (e : cAt H c = some p) {a b : Nat} {d d2 : Int} (h : icV p a b d d2 = true) {i : Int} (ia : (a : Int) ≤ i) (ib : i ≤ (b : Int)) : d ≤ gz (cMH hb H) (c : Int) i ∧ gz (cMH hb H) (c : Int) i ≤ d2 := by
  have hl := cAt_lt e
  have hn : ((c : Int)).toNat = c := Int.toNat_natCast c
  have i0 : 0 ≤ i := by omega
  have cont : i < 1099511627776 → gz (cMH hb H) (c : Int) i = cvl p i.toNat := fun q => by
    rw [gz_at (by omega) i0 q, hn, cMH_at e]
    rfl
  unfold icV at h
  cases q : Nat.beq a b with
  | true =>
    rw [q, cond_true] at h
    have q := beqN q
    have ei : i = (a : Int) := by omega
    cases q1 : Nat.beq a 1099511627776 with
    | true =>
      rw [q1, cond_true] at h
      have q1 := beqN q1
      have v : gz (cMH hb H) (c : Int) i = (p.1 : Int) + 1 := by
        rw [ei, q1]
        unfold gz
        rw [if_pos ⟨by omega, by decide⟩, if_neg (by decide), if_pos (by decide), hn, if_pos (show c < (cMH hb H).1 from hl.2), cMH_at e]
        rfl
      rw [v]
      exact ibt_of h
    | false =>
      rw [q1, cond_false] at h
      cases q2 : Nat.beq a 1099511627777 with
      | true =>
        rw [q2, cond_true] at h
        have q2 := beqN q2
        have v : gz (cMH hb H) (c : Int) i = (p.2.1 : Int) := by
          rw [ei, q2]
          unfold gz
          rw [if_pos ⟨by omega, by decide⟩, if_neg (by decide), if_neg (by decide), if_pos (by decide), hn, cMH_at e]
          rfl
        rw [v]
        exact ibt_of h
      | false =>
        rw [q2, cond_false] at h
        obtain ⟨h1, h2⟩ := andB h
        have h1 := bltN h1
        rw [cont (by omega), ei, Int.toNat_natCast]
        exact ibt_of h2
  | false =>
    rw [q, cond_false] at h
    obtain ⟨h1, h2⟩ := andB h
    obtain ⟨h2, h3⟩ := andB h2
    have h1 := bltN h1
    rw [cont (by omega)]
    unfold cvl
    rcases clk_all (j := i.toNat) (by omega) (by omega) h3 with w | ⟨z, w, z1, z2⟩
    · rw [w]
      split at h2
      · next z => rw [z]; exact ibt_of h2
      · next z => rw [z]; exact ibt_of h2
      · cases h2
    · rw [w]
      exact ⟨z1, z2⟩
def icL (f : Nat → Option CC) (q : ICl) : Nat → Bool
  | 0 => true
  | n + 1 => (match f (q.1 + q.2.1 * (q.2.2.1 + n)) with
    | some p => icV p q.2.2.2.2.1 q.2.2.2.2.2.1 (q.2.2.2.2.2.2.2.2 * Int.ofNat (q.2.2.1 + n) + q.2.2.2.2.2.2.1) (q.2.2.2.2.2.2.2.2 * Int.ofNat (q.2.2.1 + n) + q.2.2.2.2.2.2.2.1)
    | none => false) && icL f q n
theorem icL_of {f : Nat → Option CC} {q : ICl} : ∀ {n : Nat}, icL f q n = true → ∀ m, m < n → ∃ p, f (q.1 + q.2.1 * (q.2.2.1 + m)) = some p ∧ icV p q.2.2.2.2.1 q.2.2.2.2.2.1 (q.2.2.2.2.2.2.2.2 * Int.ofNat (q.2.2.1 + m) + q.2.2.2.2.2.2.1) (q.2.2.2.2.2.2.2.2 * Int.ofNat (q.2.2.1 + m) + q.2.2.2.2.2.2.2.1) = true
  | 0, _, _, h => absurd h (Nat.not_lt_zero _)
  | n + 1, e, m, h => by
    obtain ⟨a, b⟩ := andB e
    by_cases z : m = n
    · subst z
      split at a
      · next p w => exact ⟨p, w, a⟩
      · cases a
    · exact icL_of b m (by omega)
theorem icC_ok {hb : MH} {H : CH} {f : Nat → Option CC} (hf : ∀ c, f c = cAt H c) {q : ICl} (e : icL f q (q.2.2.2.1 + 1 - q.2.2.1) = true) (ρ : Nat → Int) : zB ρ (cMH hb H) (icC q).2 := by
  intro β hβ he hg x hx
  have g1 := hg _ List.mem_cons_self
  have g2 := hg _ (List.mem_cons_of_mem _ List.mem_cons_self)
  have g3 := hg _ (List.mem_cons_of_mem _ (List.mem_cons_of_mem _ List.mem_cons_self))
  have g4 := hg _ (List.mem_cons_of_mem _ (List.mem_cons_of_mem _ (List.mem_cons_of_mem _ List.mem_cons_self)))
  have v := (he _ List.mem_cons_self).2
  obtain ⟨lo, st, k1, k2, a, b, d, d2, e2⟩ := q
  replace g1 : 0 ≤ zv β (zpl (zx 60901) (-(Int.ofNat k1))) := g1
  replace g2 : 0 ≤ zv β (zsb (zc (Int.ofNat k2)) (zx 60901)) := g2
  replace g3 : 0 ≤ zv β (zpl (zx 60902) (-(Int.ofNat a))) := g3
  replace g4 : 0 ≤ zv β (zsb (zc (Int.ofNat b)) (zx 60902)) := g4
  replace v : gz (cMH hb H) (zv β (zadd (zsm (Int.ofNat st) (zx 60901)) (zc (Int.ofNat lo)))) (zv β (zx 60902)) = zv β (zx 60903) := v
  have o1 : Int.ofNat k1 = (k1 : Int) := rfl
  have o2 : Int.ofNat k2 = (k2 : Int) := rfl
  have o3 : Int.ofNat a = (a : Int) := rfl
  have o4 : Int.ofNat b = (b : Int) := rfl
  rw [zpl_v, zx_v] at g1 g3
  rw [zsb_v, zc_v, zx_v] at g2 g4
  rw [zadd_v, zsm_v, zx_v, zc_v, zx_v, zx_v] at v
  obtain ⟨p, c1, c2⟩ := icL_of e (β 60901 - (k1 : Int)).toNat (by show _ < k2 + 1 - k1; omega)
  replace c1 : f (lo + st * (k1 + (β 60901 - (k1 : Int)).toNat)) = some p := c1
  rw [hf] at c1
  have w := icV_of (hb := hb) c1 c2 (i := β 60902) (by show (a : Int) ≤ _; omega) (by show _ ≤ (b : Int); omega)
  have ec : ((lo + st * (k1 + (β 60901 - (k1 : Int)).toNat) : Nat) : Int) = Int.ofNat st * β 60901 + Int.ofNat lo := by
    rw [show k1 + (β 60901 - (k1 : Int)).toNat = (β 60901).toNat by omega, Int.natCast_add, Int.natCast_mul, Int.toNat_of_nonneg (by omega)]
    show (lo : Int) + (st : Int) * β 60901 = (st : Int) * β 60901 + (lo : Int)
    omega
  rw [ec] at w
  rw [v] at w
  replace w : e2 * Int.ofNat (k1 + (β 60901 - (k1 : Int)).toNat) + d ≤ β 60903 ∧ β 60903 ≤ e2 * Int.ofNat (k1 + (β 60901 - (k1 : Int)).toNat) + d2 := w
  rw [show Int.ofNat (k1 + (β 60901 - (k1 : Int)).toNat) = β 60901 by show (((k1 + (β 60901 - (k1 : Int)).toNat) : Nat) : Int) = _; omega] at w
  revert x
  show ∀ x ∈ [zsb (zx 60903) (zadd (zsm e2 (zx 60901)) (zc d)), zsb (zadd (zsm e2 (zx 60901)) (zc d2)) (zx 60903)], 0 ≤ zv β x
  exact all2 (by rw [zsb_v, zadd_v, zsm_v, zx_v, zx_v, zc_v]; omega) (by rw [zsb_v, zadd_v, zsm_v, zx_v, zx_v, zc_v]; omega)
/-- nothing is there yet of what is made later; so many cells there are -/
def icD : ZC := (0, [60901, 60903], [((2628, 0, 1099511627776, 1099511627776), zx 60901, zc 1099511627776, zx 60903)], [], [zx 60903, zsm (-1) (zx 60903)])
def icS : ZC := (0, [60903], [((2628, 2628, 1099511627778, 1099511627778), zc 2628, zc 1099511627778, zx 60903)], [], [zpl (zx 60903) (-2628), zsb (zc 2628) (zx 60903)])
theorem icD_ok {hb : MH} {H : CH} (h1 : H.1 = 2628) (ρ : Nat → Int) : zB ρ (cMH hb H) icD.2 := by
  intro β hβ he hg x hx
  have q := he _ List.mem_cons_self
  have i := q.1.1.1
  have v := q.2
  replace i : (2628 : Int) ≤ zv β (zx 60901) := i
  replace v : gz (cMH hb H) (zv β (zx 60901)) (zv β (zc 1099511627776)) = zv β (zx 60903) := v
  rw [zx_v] at i
  rw [zx_v, zc_v, zx_v] at v
  unfold gz at v
  rw [if_pos ⟨by omega, by decide⟩, if_neg (by decide), if_pos rfl, if_neg (by show ¬ (β 60901).toNat < H.1; omega)] at v
  revert x
  show ∀ x ∈ [zx 60903, zsm (-1) (zx 60903)], 0 ≤ zv β x
  exact all2 (by rw [zx_v]; omega) (by rw [zsm_v, zx_v]; omega)
theorem icS_ok {hb : MH} {H : CH} (h1 : H.1 = 2628) (ρ : Nat → Int) : zB ρ (cMH hb H) icS.2 := by
  intro β hβ he hg x hx
  have v := (he _ List.mem_cons_self).2
  replace v : gz (cMH hb H) (zv β (zc 2628)) (zv β (zc 1099511627778)) = zv β (zx 60903) := v
  rw [zc_v, zc_v, zx_v, gz_sz] at v
  replace v : (H.1 : Int) = β 60903 := v
  revert x
  show ∀ x ∈ [zpl (zx 60903) (-2628), zsb (zc 2628) (zx 60903)], 0 ≤ zv β x
  exact all2 (by rw [zpl_v, zx_v]; omega) (by rw [zsb_v, zc_v, zx_v]; omega)
abbrev IAl : Type := Nat × Nat × Nat × Nat × Int × Int
/-- cells lo + st k for k from k1 to k2, whichever place: from d to d2 -/
def icA (q : IAl) : ZC := (0, [60901, 60902, 60903], [((1, 0, 1, 0), zadd (zsm (Int.ofNat q.2.1) (zx 60901)) (zc (Int.ofNat q.1)), zx 60902, zx 60903)], [zpl (zx 60901) (-(Int.ofNat q.2.2.1)), zsb (zc (Int.ofNat q.2.2.2.1)) (zx 60901)], [zsb (zx 60903) (zc q.2.2.2.2.1), zsb (zc q.2.2.2.2.2) (zx 60903)])
def icW (f : Nat → Option CC) (d d2 : Int) (c : Nat) : Bool := Nat.blt c 2628 && (ibt d d2 0 && (match f c with
  | some p => ibt d d2 ((p.1 : Int) + 1) && (ibt d d2 (p.2.1 : Int) && icV p 0 1099511627775 d d2)
  | none => false))
theorem icW_of {hb : MH} {H : CH} {f : Nat → Option CC} (hf : ∀ c, f c = cAt H c) {d d2 : Int} {c : Nat} (e : icW f d d2 c = true) (i : Int) : d ≤ gz (cMH hb H) (c : Int) i ∧ gz (cMH hb H) (c : Int) i ≤ d2 := by
  obtain ⟨e1, e2⟩ := andB e
  obtain ⟨e2, e3⟩ := andB e2
  have e1 : c < 2628 := bltN e1
  replace e2 : d ≤ 0 ∧ 0 ≤ d2 := ibt_of e2
  split at e3
  · next p ep =>
    rw [hf] at ep
    obtain ⟨e4, e5⟩ := andB e3
    obtain ⟨e5, e6⟩ := andB e5
    replace e4 : d ≤ ((p.1 : Int) + 1) ∧ ((p.1 : Int) + 1) ≤ d2 := ibt_of e4
    replace e5 : d ≤ (p.2.1 : Int) ∧ (p.2.1 : Int) ≤ d2 := ibt_of e5
    have hl := cAt_lt ep
    have hn : ((c : Int)).toNat = c := Int.toNat_natCast c
    by_cases a1 : 0 ≤ i
    · by_cases a2 : i < 1099511627776
      · exact icV_of ep e6 (by show (0 : Int) ≤ _; omega) (by show _ ≤ (1099511627775 : Int); omega)
      · unfold gz
        rw [if_pos ⟨by omega, a1⟩, if_neg a2]
        by_cases a3 : i = 1099511627776
        · rw [if_pos a3, hn, if_pos (show c < (cMH hb H).1 from hl.2), cMH_at ep]
          exact e4
        · rw [if_neg a3]
          by_cases a4 : i = 1099511627777
          · rw [if_pos a4, hn, cMH_at ep]
            exact e5
          · rw [if_neg a4, if_neg (by omega)]
            exact e2
    · unfold gz
      rw [if_neg (by omega)]
      exact e2
  · cases e3
def icWL (f : Nat → Option CC) (q : IAl) : Nat → Bool
  | 0 => true
  | n + 1 => icW f q.2.2.2.2.1 q.2.2.2.2.2 (q.1 + q.2.1 * (q.2.2.1 + n)) && icWL f q n
theorem icWL_of {f : Nat → Option CC} {q : IAl} : ∀ {n : Nat}, icWL f q n = true → ∀ m, m < n → icW f q.2.2.2.2.1 q.2.2.2.2.2 (q.1 + q.2.1 * (q.2.2.1 + m)) = true
  | 0, _, _, h => absurd h (Nat.not_lt_zero _)
  | n + 1, e, m, h => by
    obtain ⟨a, b⟩ := andB e
    by_cases z : m = n
    · subst z
      exact a
    · exact icWL_of b m (by omega)
theorem icA_ok {hb : MH} {H : CH} {f : Nat → Option CC} (hf : ∀ c, f c = cAt H c) {q : IAl} (e : icWL f q (q.2.2.2.1 + 1 - q.2.2.1) = true) (ρ : Nat → Int) : zB ρ (cMH hb H) (icA q).2 := by
  intro β hβ he hg x hx
  have g1 := hg _ List.mem_cons_self
  have g2 := hg _ (List.mem_cons_of_mem _ List.mem_cons_self)
  have v := (he _ List.mem_cons_self).2
  obtain ⟨lo, st, k1, k2, d, d2⟩ := q
  replace g1 : 0 ≤ zv β (zpl (zx 60901) (-(Int.ofNat k1))) := g1
  replace g2 : 0 ≤ zv β (zsb (zc (Int.ofNat k2)) (zx 60901)) := g2
  replace v : gz (cMH hb H) (zv β (zadd (zsm (Int.ofNat st) (zx 60901)) (zc (Int.ofNat lo)))) (zv β (zx 60902)) = zv β (zx 60903) := v
  have o1 : Int.ofNat k1 = (k1 : Int) := rfl
  have o2 : Int.ofNat k2 = (k2 : Int) := rfl
  rw [zpl_v, zx_v] at g1
  rw [zsb_v, zc_v, zx_v] at g2
  rw [zadd_v, zsm_v, zx_v, zc_v, zx_v, zx_v] at v
  have w := icW_of (hb := hb) hf (icWL_of e (β 60901 - (k1 : Int)).toNat (by show _ < k2 + 1 - k1; omega)) (β 60902)
  have ec : ((lo + st * (k1 + (β 60901 - (k1 : Int)).toNat) : Nat) : Int) = Int.ofNat st * β 60901 + Int.ofNat lo := by
    rw [show k1 + (β 60901 - (k1 : Int)).toNat = (β 60901).toNat by omega, Int.natCast_add, Int.natCast_mul, Int.toNat_of_nonneg (by omega)]
    show (lo : Int) + (st : Int) * β 60901 = (st : Int) * β 60901 + (lo : Int)
    omega
  replace w : d ≤ gz (cMH hb H) ((lo + st * (k1 + (β 60901 - (k1 : Int)).toNat) : Nat) : Int) (β 60902) ∧ gz (cMH hb H) ((lo + st * (k1 + (β 60901 - (k1 : Int)).toNat) : Nat) : Int) (β 60902) ≤ d2 := w
  rw [ec, v] at w
  revert x
  show ∀ x ∈ [zsb (zx 60903) (zc d), zsb (zc d2) (zx 60903)], 0 ≤ zv β x
  exact all2 (by rw [zsb_v, zx_v, zc_v]; omega) (by rw [zsb_v, zx_v, zc_v]; omega)
def iniK (qs : List ICl) (as : List IAl) : ZK := ([], [], [], icD :: icS :: (qs.map icC ++ as.map icA))
def iniB (zi : Nat) (qs : List ICl) (as : List IAl) (k : Nat) : Bool := ((qs.all fun q => icL tAt q (q.2.2.2.1 + 1 - q.2.2.1)) && as.all fun q => icWL tAt q (q.2.2.2.1 + 1 - q.2.2.1)) && (match gAdd zG [zi] 300 1000000 (iniK qs as) (zunp 1000000 k) with
  | some (K, _) => (match K.2.2.2 with
    | c :: _ => Nat.beq c.1 zi && Nat.blt 0 zi
    | [] => false)
  | none => false)
theorem ini_of {zi : Nat} {qs : List ICl} {as : List IAl} {k : Nat} (h : iniB zi qs as k = true) (hb : MH) : zGl zG zi (cMH hb hLit) := by
  obtain ⟨h1, h2⟩ := andB h
  obtain ⟨h1, h3⟩ := andB h1
  have h1 := List.all_eq_true.mp h1
  have h3 := List.all_eq_true.mp h3
  have B : Kn zG (fun _ => 0) (cMH hb hLit) (iniK qs as) := ⟨fun f hf => absurd hf List.not_mem_nil, fun f hf => absurd hf List.not_mem_nil, fun f hf => absurd hf List.not_mem_nil, fun c hc => by
    rcases List.mem_cons.mp hc with z | z
    · rw [z]; exact icD_ok rfl _
    · rcases List.mem_cons.mp z with z | z
      · rw [z]; exact icS_ok rfl _
      · rcases List.mem_append.mp z with z | z
        · obtain ⟨q, mq, rfl⟩ := List.mem_map.mp z
          exact icC_ok tAt_eq (h1 q mq) _
        · obtain ⟨q, mq, rfl⟩ := List.mem_map.mp z
          exact icA_ok tAt_eq (h3 q mq) _⟩
  split at h2
  · next K k2 e =>
    have B2 := gAdd_of B e
    split at h2
    · next c l hc =>
      obtain ⟨c1, c2⟩ := andB h2
      have c1 := beqN c1
      have c2 := bltN c2
      have w := B2.2.2.2 c (by rw [hc]; exact List.mem_cons_self)
      obtain ⟨m, bb⟩ := c
      replace c1 : m = zi := c1
      subst c1
      match m, c2, w with
      | m + 1, _, w => exact w
    · cases h2
  · cases h2
