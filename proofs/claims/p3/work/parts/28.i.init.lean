/-! what the heap behind the constructors holds: told by numbers, looked up; clauses proved from it -/
abbrev ICl : Type := Nat × Nat × Nat × Nat × Nat × Nat × Int
/-- cells lo + st k for k from k1 to k2, places a to b: d -/
def icC (q : ICl) : ZC := (0, [60901, 60902, 60903], [((q.1 + q.2.1 * q.2.2.1, q.1 + q.2.1 * q.2.2.2.1, q.2.2.2.2.1, q.2.2.2.2.2.1), zadd (zsm (Int.ofNat q.2.1) (zx 60901)) (zc (Int.ofNat q.1)), zx 60902, zx 60903)], [zpl (zx 60901) (-(Int.ofNat q.2.2.1)), zsb (zc (Int.ofNat q.2.2.2.1)) (zx 60901), zpl (zx 60902) (-(Int.ofNat q.2.2.2.2.1)), zsb (zc (Int.ofNat q.2.2.2.2.2.1)) (zx 60902)], [zsb (zx 60903) (zc q.2.2.2.2.2.2), zsb (zc q.2.2.2.2.2.2) (zx 60903)])
def icV (p : CC) (a b : Nat) (d : Int) : Bool := bif Nat.beq a b then (bif Nat.beq a 1099511627776 then ieq d ((p.1 : Int) + 1) else bif Nat.beq a 1099511627777 then ieq d (p.2.1 : Int) else Nat.blt a 1099511627776 && ieq (cvl p a) d) else Nat.blt b 1099511627776 && ((match p.2.2.1 with
  | 0 => ieq d 0
  | 1 => ieq d (-1)
  | _ => false) && p.2.2.2.all fun w => !(Nat.ble a w.1 && Nat.ble w.1 b) || ieq w.2 d)
theorem clk_all {a b : Nat} {d : Int} {j : Nat} (ja : a ≤ j) (jb : j ≤ b) : ∀ {l : List (Nat × Int)}, (l.all fun w => !(Nat.ble a w.1 && Nat.ble w.1 b) || ieq w.2 d) = true → clk l j = none ∨ clk l j = some d
  | [], _ => Or.inl rfl
  | w :: l, h => by
    obtain ⟨h1, h2⟩ := andB h
    unfold clk
    cases q : Nat.beq w.1 j with
    | false => exact clk_all ja jb h2
    | true =>
      have q := beqN q
      right
      replace h1 : (!(Nat.ble a w.1 && Nat.ble w.1 b) || ieq w.2 d) = true := h1
      rw [q] at h1
      rw [Nat.ble_eq_true_of_le ja, Nat.ble_eq_true_of_le jb] at h1
      replace h1 : ieq w.2 d = true := h1
      rw [ieq_of h1]
      rfl
theorem icV_of {hb : MH} {H : CH} {c : Nat} {p : CC} (e : cAt H c = some p) {a b : Nat} {d : Int} (h : icV p a b d = true) {i : Int} (ia : (a : Int) ≤ i) (ib : i ≤ (b : Int)) : gz (cMH hb H) (c : Int) i = d := by
  have hl := cAt_lt e
  have hn : ((c : Int)).toNat = c := Int.toNat_natCast c
  have i0 : 0 ≤ i := by omega
  have cont : i < 1099511627776 → gz (cMH hb H) (c : Int) i = cvl p i.toNat := fun q => by
    rw [gz_at (by omega) i0 q, hn, cMH_at e]
    rfl
  unfold icV at h
  cases q : Nat.beq a b with
  | true =>
    rw [q, cond_true] at h
    have q := beqN q
    have ei : i = (a : Int) := by omega
    cases q1 : Nat.beq a 1099511627776 with
    | true =>
      rw [q1, cond_true] at h
      have q1 := beqN q1
      rw [ieq_of h, ei, q1]
      unfold gz
      rw [if_pos ⟨by omega, by decide⟩, if_neg (by decide), if_pos (by decide), hn, if_pos (show c < (cMH hb H).1 from hl.2), cMH_at e]
      rfl
    | false =>
      rw [q1, cond_false] at h
      cases q2 : Nat.beq a 1099511627777 with
      | true =>
        rw [q2, cond_true] at h
        have q2 := beqN q2
        rw [ieq_of h, ei, q2]
        unfold gz
        rw [if_pos ⟨by omega, by decide⟩, if_neg (by decide), if_neg (by decide), if_pos (by decide), hn, cMH_at e]
        rfl
      | false =>
        rw [q2, cond_false] at h
        obtain ⟨h1, h2⟩ := andB h
        have h1 := bltN h1
        rw [cont (by omega), ei, Int.toNat_natCast]
        exact ieq_of h2
  | false =>
    rw [q, cond_false] at h
    obtain ⟨h1, h2⟩ := andB h
    obtain ⟨h2, h3⟩ := andB h2
    have h1 := bltN h1
    rw [cont (by omega)]
    unfold cvl
    rcases clk_all (j := i.toNat) (by omega) (by omega) h3 with w | w
    · rw [w]
      split at h2
      · next z => rw [z]; exact (ieq_of h2).symm
      · next z => rw [z]; exact (ieq_of h2).symm
      · cases h2
    · rw [w]
def icL (H : CH) (q : ICl) : Nat → Bool
  | 0 => true
  | n + 1 => (match cAt H (q.1 + q.2.1 * (q.2.2.1 + n)) with
    | some p => icV p q.2.2.2.2.1 q.2.2.2.2.2.1 q.2.2.2.2.2.2
    | none => false) && icL H q n
theorem icL_of {H : CH} {q : ICl} : ∀ {n : Nat}, icL H q n = true → ∀ m, m < n → ∃ p, cAt H (q.1 + q.2.1 * (q.2.2.1 + m)) = some p ∧ icV p q.2.2.2.2.1 q.2.2.2.2.2.1 q.2.2.2.2.2.2 = true
  | 0, _, _, h => absurd h (Nat.not_lt_zero _)
  | n + 1, e, m, h => by
    obtain ⟨a, b⟩ := andB e
    by_cases z : m = n
    · subst z
      split at a
      · next p w => exact ⟨p, w, a⟩
      · cases a
    · exact icL_of b m (by omega)
theorem icC_ok {hb : MH} {H : CH} {q : ICl} (e : icL H q (q.2.2.2.1 + 1 - q.2.2.1) = true) (ρ : Nat → Int) : zB ρ (cMH hb H) (icC q).2 := by
  intro β hβ he hg x hx
  have g1 := hg _ List.mem_cons_self
  have g2 := hg _ (List.mem_cons_of_mem _ List.mem_cons_self)
  have g3 := hg _ (List.mem_cons_of_mem _ (List.mem_cons_of_mem _ List.mem_cons_self))
  have g4 := hg _ (List.mem_cons_of_mem _ (List.mem_cons_of_mem _ (List.mem_cons_of_mem _ List.mem_cons_self)))
  have v := (he _ List.mem_cons_self).2
  obtain ⟨lo, st, k1, k2, a, b, d⟩ := q
  replace g1 : 0 ≤ zv β (zpl (zx 60901) (-(Int.ofNat k1))) := g1
  replace g2 : 0 ≤ zv β (zsb (zc (Int.ofNat k2)) (zx 60901)) := g2
  replace g3 : 0 ≤ zv β (zpl (zx 60902) (-(Int.ofNat a))) := g3
  replace g4 : 0 ≤ zv β (zsb (zc (Int.ofNat b)) (zx 60902)) := g4
  replace v : gz (cMH hb H) (zv β (zadd (zsm (Int.ofNat st) (zx 60901)) (zc (Int.ofNat lo)))) (zv β (zx 60902)) = zv β (zx 60903) := v
  have o1 : Int.ofNat k1 = (k1 : Int) := rfl
  have o2 : Int.ofNat k2 = (k2 : Int) := rfl
  have o3 : Int.ofNat a = (a : Int) := rfl
  have o4 : Int.ofNat b = (b : Int) := rfl
  rw [zpl_v, zx_v] at g1 g3
  rw [zsb_v, zc_v, zx_v] at g2 g4
  rw [zadd_v, zsm_v, zx_v, zc_v, zx_v, zx_v] at v
  obtain ⟨p, c1, c2⟩ := icL_of e (β 60901 - (k1 : Int)).toNat (by show _ < k2 + 1 - k1; omega)
  replace c1 : cAt H (lo + st * (k1 + (β 60901 - (k1 : Int)).toNat)) = some p := c1
  have w := icV_of (hb := hb) c1 c2 (i := β 60902) (by show (a : Int) ≤ _; omega) (by show _ ≤ (b : Int); omega)
  have ec : ((lo + st * (k1 + (β 60901 - (k1 : Int)).toNat) : Nat) : Int) = Int.ofNat st * β 60901 + Int.ofNat lo := by
    rw [show k1 + (β 60901 - (k1 : Int)).toNat = (β 60901).toNat by omega, Int.natCast_add, Int.natCast_mul, Int.toNat_of_nonneg (by omega)]
    show (lo : Int) + (st : Int) * β 60901 = (st : Int) * β 60901 + (lo : Int)
    omega
  rw [ec] at w
  rw [w] at v
  replace v : d = β 60903 := v
  revert x
  show ∀ x ∈ [zsb (zx 60903) (zc d), zsb (zc d) (zx 60903)], 0 ≤ zv β x
  exact all2 (by rw [zsb_v, zx_v, zc_v]; omega) (by rw [zsb_v, zx_v, zc_v]; omega)
/-- nothing is there yet of what is made later; so many cells there are -/
def icD : ZC := (0, [60901, 60903], [((2628, 0, 1099511627776, 1099511627776), zx 60901, zc 1099511627776, zx 60903)], [], [zx 60903, zsm (-1) (zx 60903)])
def icS : ZC := (0, [60903], [((2628, 2628, 1099511627778, 1099511627778), zc 2628, zc 1099511627778, zx 60903)], [], [zpl (zx 60903) (-2628), zsb (zc 2628) (zx 60903)])
theorem icD_ok {hb : MH} {H : CH} (h1 : H.1 = 2628) (ρ : Nat → Int) : zB ρ (cMH hb H) icD.2 := by
  intro β hβ he hg x hx
  have q := he _ List.mem_cons_self
  have i := q.1.1.1
  have v := q.2
  replace i : (2628 : Int) ≤ zv β (zx 60901) := i
  replace v : gz (cMH hb H) (zv β (zx 60901)) (zv β (zc 1099511627776)) = zv β (zx 60903) := v
  rw [zx_v] at i
  rw [zx_v, zc_v, zx_v] at v
  unfold gz at v
  rw [if_pos ⟨by omega, by decide⟩, if_neg (by decide), if_pos rfl, if_neg (by show ¬ (β 60901).toNat < H.1; omega)] at v
  revert x
  show ∀ x ∈ [zx 60903, zsm (-1) (zx 60903)], 0 ≤ zv β x
  exact all2 (by rw [zx_v]; omega) (by rw [zsm_v, zx_v]; omega)
theorem icS_ok {hb : MH} {H : CH} (h1 : H.1 = 2628) (ρ : Nat → Int) : zB ρ (cMH hb H) icS.2 := by
  intro β hβ he hg x hx
  have v := (he _ List.mem_cons_self).2
  replace v : gz (cMH hb H) (zv β (zc 2628)) (zv β (zc 1099511627778)) = zv β (zx 60903) := v
  rw [zc_v, zc_v, zx_v, gz_sz] at v
  replace v : (H.1 : Int) = β 60903 := v
  revert x
  show ∀ x ∈ [zpl (zx 60903) (-2628), zsb (zc 2628) (zx 60903)], 0 ≤ zv β x
  exact all2 (by rw [zpl_v, zx_v]; omega) (by rw [zsb_v, zc_v, zx_v]; omega)
def iniK (qs : List ICl) : ZK := ([], [], [], icD :: icS :: qs.map icC)
def iniB (zi : Nat) (qs : List ICl) (k : Nat) : Bool := (qs.all fun q => icL hLit q (q.2.2.2.1 + 1 - q.2.2.1)) && (match gAdd zG [zi] 300 1000000 (iniK qs) (zunp 1000000 k) with
  | some (K, _) => (match K.2.2.2 with
    | c :: _ => Nat.beq c.1 zi && Nat.blt 0 zi
    | [] => false)
  | none => false)
theorem ini_of {zi : Nat} {qs : List ICl} {k : Nat} (h : iniB zi qs k = true) (hb : MH) : zGl zG zi (cMH hb hLit) := by
  obtain ⟨h1, h2⟩ := andB h
  have h1 := List.all_eq_true.mp h1
  have B : Kn zG (fun _ => 0) (cMH hb hLit) (iniK qs) := ⟨fun f hf => absurd hf List.not_mem_nil, fun f hf => absurd hf List.not_mem_nil, fun f hf => absurd hf List.not_mem_nil, fun c hc => by
    rcases List.mem_cons.mp hc with z | z
    · rw [z]; exact icD_ok rfl _
    · rcases List.mem_cons.mp z with z | z
      · rw [z]; exact icS_ok rfl _
      · obtain ⟨q, mq, rfl⟩ := List.mem_map.mp z
        exact icC_ok (h1 q mq) _⟩
  split at h2
  · next K k2 e =>
    have B2 := gAdd_of B e
    split at h2
    · next c l hc =>
      obtain ⟨c1, c2⟩ := andB h2
      have c1 := beqN c1
      have c2 := bltN c2
      have w := B2.2.2.2 c (by rw [hc]; exact List.mem_cons_self)
      obtain ⟨m, bb⟩ := c
      replace c1 : m = zi := c1
      subst c1
      match m, c2, w with
      | m + 1, _, w => exact w
    · cases h2
  · cases h2
