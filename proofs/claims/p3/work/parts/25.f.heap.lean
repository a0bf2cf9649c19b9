/-! what is read from the heap, and what is written -/
def zspan (T : ZTab) (kd n : Nat) : Nat → Nat → Bool
  | _, 0 => true
  | c, m + 1 => Nat.beq (T.2.1 c) kd && (Nat.beq (T.2.2.1 c) n && zspan T kd n (c + 1) m)
theorem zspan_of {T : ZTab} {kd n : Nat} : ∀ {m lo : Nat}, zspan T kd n lo m = true → ∀ c, lo ≤ c → c < lo + m → T.2.1 c = kd ∧ T.2.2.1 c = n
  | 0, lo, _, c, a, b => by omega
  | m + 1, lo, h, c, a, b => by
    obtain ⟨h1, h2⟩ := andB h
    obtain ⟨h2, h3⟩ := andB h2
    by_cases e : c = lo
    · exact e ▸ ⟨beqN h1, beqN h2⟩
    · exact zspan_of h3 c (by omega) (by omega)
/-- a cell of a kind, told by number or between two numbers, or (0) by what is known of its kind and length: its length, the two numbers (the upper one 0: none) -/
def zcl (T : ZTab) (F : List ZT) (A : List ZA) (kd : Nat) (r : ZT) (k : List Nat) : Option ((ZT × Nat × Nat) × List Nat) := match r.2 with
  | [] => (match r.1 with
    | .ofNat c => bif Nat.ble 1 c && (Nat.blt c T.1 && Nat.beq (T.2.1 c) kd) then some ((zc (Int.ofNat (T.2.2.1 c)), c, c), k) else none
    | .negSucc _ => none)
  | _ => (match k with
    | lo :: m :: k => bif Nat.beq lo 50001 then (match k with
        | a2 :: c0 :: c2 :: k => (match zget A m, zget A a2 with
          | some p, some q => (match rdCs 4 k with
            | (cs, k) => bif Nat.blt c0 c2 && (Nat.ble 1 c0 && (zeq p.1 r && (zeq p.2.1 (zc 1099511627776) && (zeq q.1 r && (zeq q.2.1 (zc 1099511627777) && zcerts F cs [zpl r (-(Int.ofNat c0)), zpl p.2.2 (-(Int.ofNat (kd + 1))), zsb (zc (Int.ofNat (kd + 1))) p.2.2, zsb (zc (Int.ofNat c2)) r]))))) then some ((q.2.2, c0, c2), k) else none)
          | _, _ => none)
        | _ => none) else bif Nat.beq lo 0 then (match k with
        | a2 :: c0 :: k => (match zget A m, zget A a2 with
          | some p, some q => (match rdCs 3 k with
            | (cs, k) => bif Nat.blt kd 16 && (Nat.ble 1 c0 && (zeq p.1 r && (zeq p.2.1 (zc 1099511627776) && (zeq q.1 r && (zeq q.2.1 (zc 1099511627777) && zcerts F cs [zpl r (-(Int.ofNat c0)), zpl p.2.2 (-(Int.ofNat (kd + 1))), zsb (zc (Int.ofNat (kd + 1))) p.2.2]))))) then some ((q.2.2, c0, 0), k) else none)
          | _, _ => none)
        | _ => none) else bif Nat.ble 1 lo && (Nat.ble (lo + m) T.1 && (Nat.ble 1 m && zspan T kd (T.2.2.1 lo) lo m)) then (match zwi F lo (lo + (m - 1)) r k with
      | some k => some ((zc (Int.ofNat (T.2.2.1 lo)), lo, lo + (m - 1)), k)
      | none => none) else none
    | _ => none)
theorem kind_pl {T : ZTab} (tk : TabOk T) {d : Nat} (hd : T.2.1 d < 6) (j : Nat) : T.2.2.2.1 d j = 0 ∧ ¬ j < (T.2.2.2.2 d).2 := by
  refine ⟨?_, fun q => ?_⟩
  · by_cases q : T.2.2.2.1 d j = 0
    · exact q
    · have := (tk.1 d j q).2.2.1
      omega
  · have := (tk.2 d j q).2.2.1
    omega
theorem kind_dy {T : ZTab} (tk : TabOk T) {d : Nat} (hd : T.1 ≤ d) (j : Nat) : T.2.2.2.1 d j = 0 ∧ ¬ j < (T.2.2.2.2 d).2 := by
  refine ⟨?_, fun q => ?_⟩
  · by_cases q : T.2.2.2.1 d j = 0
    · exact q
    · have := (tk.1 d j q).1
      omega
  · have := (tk.2 d j q).1
    omega
def ClOk (T : ZTab) (h : MH) (kd : Nat) (R len : Int) (c1 c2 : Nat) : Prop := 0 ≤ R ∧ R.toNat < h.1 ∧ (h.2 R.toNat).1 = kd ∧ (kd < 16 → ((h.2 R.toNat).2.1 : Int) = len) ∧ (c1 : Int) ≤ R ∧ (c2 = 0 ∨ R ≤ (c2 : Int)) ∧ 1 ≤ c1 ∧ (kd < 6 → ∀ j, T.2.2.2.1 R.toNat j = 0 ∧ ¬ j < (T.2.2.2.2 R.toNat).2) ∧ (c1 = c2 → c1 < T.1 ∧ T.2.1 c1 = kd)
theorem zcl_of {T : ZTab} (tk : TabOk T) {F : List ZT} {A : List ZA} {ρ : Nat → Int} {h : MH} (hF : ∀ f ∈ F, 0 ≤ zv ρ f) (hA : ∀ a ∈ A, zA ρ h a) (g : StrZ T h) {kd : Nat} {r : ZT} {k k' : List Nat} {p : ZT × Nat × Nat} (e : zcl T F A kd r k = some (p, k')) : ClOk T h kd (zv ρ r) (zv ρ p.1) p.2.1 p.2.2 := by
  have at' : ∀ (n c : Nat), zv ρ r = (c : Int) → 1 ≤ c → c < T.1 → T.2.1 c = kd → T.2.2.1 c = n → 0 ≤ zv ρ r ∧ (zv ρ r).toNat < h.1 ∧ (h.2 (zv ρ r).toNat).1 = kd ∧ (kd < 16 → ((h.2 (zv ρ r).toNat).2.1 : Int) = (n : Int)) ∧ (kd < 6 → ∀ j, T.2.2.2.1 (zv ρ r).toNat j = 0 ∧ ¬ j < (T.2.2.2.2 (zv ρ r).toNat).2) := fun n c hc c1 c2 c3 c4 => by
    have q := g.1.2 c c1 c2
    have e2 : (zv ρ r).toNat = c := by omega
    rw [e2]
    exact ⟨by omega, Nat.lt_of_lt_of_le c2 g.1.1, q.1.trans c3, fun w => by rw [(q.2 (by rw [q.1, c3]; exact w)).trans c4], fun w => kind_pl tk (by rw [c3]; exact w)⟩
  unfold zcl at e
  split at e
  · next e0 =>
    split at e
    · next c e1 =>
      cases e2 : (Nat.ble 1 c && (Nat.blt c T.1 && Nat.beq (T.2.1 c) kd)) with
      | false => rw [e2] at e; cases e
      | true =>
        rw [e2] at e
        cases e
        obtain ⟨h1, h2⟩ := andB e2
        obtain ⟨h2, h3⟩ := andB h2
        have v : zv ρ r = (c : Int) := by
          unfold zv
          rw [e0, e1]
          exact Int.add_zero _
        have q := at' _ c v (bleN h1) (bltN h2) (beqN h3) rfl
        exact ⟨q.1, q.2.1, q.2.2.1, fun w => by rw [zc_v]; exact q.2.2.2.1 w, by show (c : Int) ≤ _; omega, Or.inr (by show _ ≤ (c : Int); omega), bleN h1, q.2.2.2.2, fun _ => ⟨bltN h2, beqN h3⟩⟩
    · cases e
  · split at e
    · next lo' m k1 =>
      cases e9 : Nat.beq lo' 50001 with
      | true =>
        rw [e9, cond_true] at e
        split at e
        · next a2 c0 c9 k2 =>
          split at e
          · next u v hu hv =>
            split at e
            next cs k3 e3 =>
            cases e4 : (Nat.blt c0 c9 && (Nat.ble 1 c0 && (zeq u.1 r && (zeq u.2.1 (zc 1099511627776) && (zeq v.1 r && (zeq v.2.1 (zc 1099511627777) && zcerts F cs [zpl r (-(Int.ofNat c0)), zpl u.2.2 (-(Int.ofNat (kd + 1))), zsb (zc (Int.ofNat (kd + 1))) u.2.2, zsb (zc (Int.ofNat c9)) r])))))) with
            | false => rw [e4] at e; cases e
            | true =>
              rw [e4] at e
              cases e
              obtain ⟨b1, b2⟩ := andB e4
              obtain ⟨b2, b3⟩ := andB b2
              obtain ⟨b3, b4⟩ := andB b3
              obtain ⟨b4, b5⟩ := andB b4
              obtain ⟨b5, b6⟩ := andB b5
              obtain ⟨b6, b7⟩ := andB b6
              have b1 := bltN b1
              have b2 := bleN b2
              have c := zcerts_of hF b7
              have c1 := c _ List.mem_cons_self
              have c2 := c _ (List.mem_cons_of_mem _ List.mem_cons_self)
              have c3 := c _ (List.mem_cons_of_mem _ (List.mem_cons_of_mem _ List.mem_cons_self))
              have c8 := c _ (List.mem_cons_of_mem _ (List.mem_cons_of_mem _ (List.mem_cons_of_mem _ List.mem_cons_self)))
              rw [zsb_v, zc_v] at c8
              have c8 : 0 ≤ (c9 : Int) - zv ρ r := c8
              rw [zpl_v] at c1 c2
              rw [zsb_v, zc_v] at c3
              have c1 : 0 ≤ zv ρ r + -(c0 : Int) := c1
              have c2 : 0 ≤ zv ρ u.2.2 + -((kd + 1 : Nat) : Int) := c2
              have c3 : 0 ≤ ((kd + 1 : Nat) : Int) - zv ρ u.2.2 := c3
              have g1 := hA u (zget_mem hu)
              have g2 := hA v (zget_mem hv)
              unfold zA at g1 g2
              rw [zeq_of b3, zeq_of b4, zc_v] at g1
              rw [zeq_of b5, zeq_of b6, zc_v] at g2
              obtain ⟨d1, d2, d3⟩ := gz_kd (h := h) (r := zv ρ r) (by rw [g1]; omega)
              rw [gz_ln d1] at g2
              have dk : (h.2 (zv ρ r).toNat).1 = kd := by omega
              refine ⟨d1, d2, dk, fun _ => g2, by show (c0 : Int) ≤ _; omega, Or.inr (by show zv ρ r ≤ (c9 : Int); omega), b2, fun w j => ?_, fun z => ?_⟩
              · by_cases q : (zv ρ r).toNat < T.1
                · have u := (g.1.2 (zv ρ r).toNat (by omega) q).1
                  exact kind_pl tk (by omega) j
                · exact kind_dy tk (by omega) j
              · have z : c0 = c9 := z
                omega
          · cases e
        · cases e
      | false =>
      rw [e9, cond_false] at e
      cases e0 : Nat.beq lo' 0 with
      | true =>
        rw [e0, cond_true] at e
        split at e
        · next a2 c0 k2 =>
          split at e
          · next u v hu hv =>
            split at e
            next cs k3 e3 =>
            cases e4 : (Nat.blt kd 16 && (Nat.ble 1 c0 && (zeq u.1 r && (zeq u.2.1 (zc 1099511627776) && (zeq v.1 r && (zeq v.2.1 (zc 1099511627777) && zcerts F cs [zpl r (-(Int.ofNat c0)), zpl u.2.2 (-(Int.ofNat (kd + 1))), zsb (zc (Int.ofNat (kd + 1))) u.2.2])))))) with
            | false => rw [e4] at e; cases e
            | true =>
              rw [e4] at e
              cases e
              obtain ⟨b1, b2⟩ := andB e4
              obtain ⟨b2, b3⟩ := andB b2
              obtain ⟨b3, b4⟩ := andB b3
              obtain ⟨b4, b5⟩ := andB b4
              obtain ⟨b5, b6⟩ := andB b5
              obtain ⟨b6, b7⟩ := andB b6
              have b1 := bltN b1
              have b2 := bleN b2
              have c := zcerts_of hF b7
              have c1 := c _ List.mem_cons_self
              have c2 := c _ (List.mem_cons_of_mem _ List.mem_cons_self)
              have c3 := c _ (List.mem_cons_of_mem _ (List.mem_cons_of_mem _ List.mem_cons_self))
              rw [zpl_v] at c1 c2
              rw [zsb_v, zc_v] at c3
              have c1 : 0 ≤ zv ρ r + -(c0 : Int) := c1
              have c2 : 0 ≤ zv ρ u.2.2 + -((kd + 1 : Nat) : Int) := c2
              have c3 : 0 ≤ ((kd + 1 : Nat) : Int) - zv ρ u.2.2 := c3
              have g1 := hA u (zget_mem hu)
              have g2 := hA v (zget_mem hv)
              unfold zA at g1 g2
              rw [zeq_of b3, zeq_of b4, zc_v] at g1
              rw [zeq_of b5, zeq_of b6, zc_v] at g2
              obtain ⟨d1, d2, d3⟩ := gz_kd (h := h) (r := zv ρ r) (by rw [g1]; omega)
              rw [gz_ln d1] at g2
              have dk : (h.2 (zv ρ r).toNat).1 = kd := by omega
              refine ⟨d1, d2, dk, fun _ => g2, by show (c0 : Int) ≤ _; omega, Or.inl rfl, b2, fun w j => ?_, fun z => ?_⟩
              · by_cases q : (zv ρ r).toNat < T.1
                · have u := (g.1.2 (zv ρ r).toNat (by omega) q).1
                  exact kind_pl tk (by omega) j
                · exact kind_dy tk (by omega) j
              · have z : c0 = 0 := z
                omega
          · cases e
        · cases e
      | false =>
      rw [e0, cond_false] at e
      cases e2 : (Nat.ble 1 lo' && (Nat.ble (lo' + m) T.1 && (Nat.ble 1 m && zspan T kd (T.2.2.1 lo') lo' m))) with
      | false => rw [e2] at e; cases e
      | true =>
        rw [e2] at e
        obtain ⟨h1, h2⟩ := andB e2
        obtain ⟨h2, h3⟩ := andB h2
        obtain ⟨h3, h4⟩ := andB h3
        have h1 := bleN h1
        have h2 := bleN h2
        have h3 := bleN h3
        have h4 := zspan_of h4
        replace e : (match zwi F lo' (lo' + (m - 1)) r k1 with
          | some k => some ((zc (Int.ofNat (T.2.2.1 lo')), lo', lo' + (m - 1)), k)
          | none => none) = some (p, k') := e
        split at e
        · next k2 e3 =>
          cases e
          have w := zwi_of hF e3
          have p := h4 (zv ρ r).toNat (by omega) (by omega)
          have q := at' _ (zv ρ r).toNat (by omega) (by omega) (by omega) p.1 p.2
          exact ⟨q.1, q.2.1, q.2.2.1, fun w => by rw [zc_v]; exact q.2.2.2.1 w, w.1, Or.inr w.2, h1, q.2.2.2.2, fun _ => ⟨by show lo' < T.1; omega, (h4 lo' (Nat.le_refl _) (by omega)).1⟩⟩
        · cases e
    · cases e
/-- an index within -/
def zix (F : List ZT) (len i : ZT) (k : List Nat) : Option (List Nat) := match len.2 with
  | [] => (match len.1 with
    | .ofNat n => bif Nat.blt 0 n then zwi F 0 (n - 1) i k else none
    | .negSucc _ => none)
  | _ => (match rdCs 2 k with
    | (cs, k) => bif zcerts F cs [i, zpl (zsb len i) (-1)] then some k else none)
theorem zix_of {F : List ZT} {ρ : Nat → Int} (hF : ∀ f ∈ F, 0 ≤ zv ρ f) {len i : ZT} {k k' : List Nat} (e : zix F len i k = some k') : 0 ≤ zv ρ i ∧ zv ρ i < zv ρ len := by
  unfold zix at e
  split at e
  · next e0 =>
    split at e
    · next n e1 =>
      cases e2 : Nat.blt 0 n with
      | false => rw [e2] at e; cases e
      | true =>
        rw [e2, cond_true] at e
        have e2 := bltN e2
        have w := zwi_of hF e
        have v : zv ρ len = (n : Int) := by
          unfold zv
          rw [e0, e1]
          exact Int.add_zero _
        have w1 : 0 ≤ zv ρ i := w.1
        omega
    · cases e
  · split at e
    next cs k1 e1 =>
    cases e2 : zcerts F cs [i, zpl (zsb len i) (-1)] with
    | false => rw [e2] at e; cases e
    | true =>
      have c := zcerts_of hF e2
      have c1 := c _ List.mem_cons_self
      have c2 := c _ (List.mem_cons_of_mem _ List.mem_cons_self)
      rw [zpl_v, zsb_v] at c2
      omega
def kF (kd : Nat) (t : ZT) : List ZT := match kd with
  | 0 => rngF 0 t
  | 1 => rngF 1 t
  | 2 => [t, zsb (zc 1) t]
  | 3 => [zpl t 128, zsb (zc 127) t]
  | 4 => [t, zsb (zc 65535) t]
  | _ => []
theorem kF_of {ρ : Nat → Int} {kd : Nat} {t : ZT} (m : mokE kd (zv ρ t)) : ∀ f ∈ kF kd t, 0 ≤ zv ρ f := by
  match kd, m with
  | 0, m => exact rngF_of m.1 m.2
  | 1, m => exact rngF_of (tag := 1) m.1 m.2
  | 2, m =>
    replace m : 0 ≤ zv ρ t ∧ zv ρ t ≤ 1 := m
    exact all2 m.1 (by rw [zsb_v, zc_v]; omega)
  | 3, m =>
    replace m : -128 ≤ zv ρ t ∧ zv ρ t ≤ 127 := m
    exact all2 (by rw [zpl_v]; omega) (by rw [zsb_v, zc_v]; omega)
  | 4, m =>
    replace m : 0 ≤ zv ρ t ∧ zv ρ t ≤ 65535 := m
    exact all2 m.1 (by rw [zsb_v, zc_v]; omega)
  | kd + 5, m => exact noF
/-- a value that lies at (r, i): an atom tells it (0), or it gets a name (1), with its range (2) -/
def zrd (lo : Nat) (s : ZSt) (rest : ZSs) (tag : Nat) (r i : ZT) (fs : ZT → List ZT) (k : List Nat) : Option (ZSt × List Nat) := match k with
  | 0 :: a :: k => (match zget s.2.2.2.2.1 a with
    | some q => bif zeq q.1 r && zeq q.2.1 i then some (zpush s rest tag q.2.2, k) else none
    | none => none)
  | 1 :: n :: k => bif zfr lo s n && (!(zoc (Nat.beq n) r) && !(zoc (Nat.beq n) i)) then some ((s.1, (tag, zx n) :: rest, (s.2.2.1, s.2.2.2.1, (r, i, zx n) :: s.2.2.2.2.1, s.2.2.2.2.2)), k) else none
  | 2 :: n :: k => bif zfr lo s n && (!(zoc (Nat.beq n) r) && !(zoc (Nat.beq n) i)) then some ((s.1, (tag, zx n) :: rest, (fs (zx n) ++ s.2.2.1, s.2.2.2.1, (r, i, zx n) :: s.2.2.2.2.1, s.2.2.2.2.2)), k) else none
  | _ => none
section VE
variable {G : ZG} {lo tag : Nat} {ρ : Nat → Int} {h : MH} {s s' : ZSt} {rest : ZSs} {k k' : List Nat}
theorem zrd_of (B : Kn G ρ h s.2.2) (hr : ∀ q ∈ rest, q ∈ s.2.1) {r i : ZT} {fs : ZT → List ZT} (hfs : ∀ (ρ' : Nat → Int) (t : ZT), zv ρ' t = gz h (zv ρ r) (zv ρ i) → ∀ f ∈ fs t, 0 ≤ zv ρ' f) (e : zrd lo s rest tag r i fs k = some (s', k')) : VOk G lo ρ h s s' rest tag (gz h (zv ρ r) (zv ρ i)) := by
  have fr : ∀ {n : Nat} {ffs : List ZT} {k1 : List Nat}, (bif zfr lo s n && (!(zoc (Nat.beq n) r) && !(zoc (Nat.beq n) i)) then some ((s.1, (tag, zx n) :: rest, (ffs ++ s.2.2.1, s.2.2.2.1, (r, i, zx n) :: s.2.2.2.2.1, s.2.2.2.2.2)), k1) else none) = some (s', k') → (∀ f ∈ ffs, 0 ≤ zv (zup ρ n (gz h (zv ρ r) (zv ρ i))) f) → VOk G lo ρ h s s' rest tag (gz h (zv ρ r) (zv ρ i)) := fun {n ffs k1} e q => by
    cases e1 : (zfr lo s n && (!(zoc (Nat.beq n) r) && !(zoc (Nat.beq n) i))) with
    | false => rw [e1] at e; cases e
    | true =>
      rw [e1] at e
      cases e
      obtain ⟨a1, a2⟩ := andB e1
      obtain ⟨a2, a3⟩ := andB a2
      obtain ⟨h1, h2, h3, h4⟩ := zfr_of a1
      have hs : ∀ q ∈ s.2.1, zv (zup ρ n (gz h (zv ρ r) (zv ρ i))) q.2 = zv ρ q.2 := fun q hq => zoc_up (anyF h3 q hq)
      have B' := B.up (gz h (zv ρ r) (zv ρ i)) h4
      refine ⟨zup ρ n (gz h (zv ρ r) (zv ρ i)), fun v hv => zup_no ρ _ ?_, (B'.facts q).atom ?_, zL_cg h2 fun _ hv => zup_no ρ _ hv, ?_⟩
      · cases w : Nat.beq n v with
        | false => rfl
        | true => have := beqN w; omega
      · unfold zA
        rw [zoc_up (notB a2), zoc_up (notB a3), zxu]
      · show (tag, zv _ (zx n)) :: zSk _ rest = _
        rw [zxu]
        congr 1
        unfold zSk
        refine List.map_congr_left fun q hq => ?_
        rw [hs q (hr q hq)]
  unfold zrd at e
  split at e
  · next a k1 =>
    split at e
    · next q hq =>
      cases e1 : (zeq q.1 r && zeq q.2.1 i) with
      | false => rw [e1] at e; cases e
      | true =>
        rw [e1] at e
        cases e
        obtain ⟨a1, a2⟩ := andB e1
        have m := B.2.2.1 q (zget_mem hq)
        unfold zA at m
        rw [zeq_of a1, zeq_of a2] at m
        exact zpush_of B m.symm
    · cases e
  · next n k1 => exact fr (ffs := []) e noF
  · next n k1 => exact fr e (hfs _ _ (zxu _ _ _))
  · cases e
end VE
def xGet (T : ZTab) (lo ci j c : Nat) (s : ZSt) (r : ZT) (rest : ZSs) (k : List Nat) : Option (ZSt × List Nat) := match zcl T s.2.2.1 s.2.2.2.2.1 (16 + ci) r k with
  | some (p, k) => bif Nat.beq c 2 then (bif Nat.beq p.2.1 p.2.2 && Nat.blt j 1000 then (match T.2.2.2.1 p.2.1 j with
      | m + 1 => some (zpush s rest 2 (zc (Int.ofNat (m + 1))), k)
      | 0 => zrd lo s rest 2 r (zc (Int.ofNat j)) (fun _ => []) k) else (bif Nat.blt j 1000 then zrd lo s rest 2 r (zc (Int.ofNat j)) (fun _ => []) k else none)) else bif (Nat.beq c 0 || (Nat.beq c 1 || (Nat.beq c 3 || Nat.beq c 4))) && Nat.blt j 1000 then zrd lo s rest (tgo c) r (zc (Int.ofNat j)) (fun t => bif Nat.beq c 3 then [] else rngF (tgo c) t) k else none
  | none => none
def xLd (T : ZTab) (lo kd tag : Nat) (s : ZSt) (r i : ZT) (rest : ZSs) (k : List Nat) : Option (ZSt × List Nat) := match zcl T s.2.2.1 s.2.2.2.2.1 kd r k with
  | some (p, k) => (match zix s.2.2.1 p.1 i k with
    | some k => zrd lo s rest tag r i (kF kd) k
    | none => none)
  | none => none
/-- a row of rows; of others what lies there is read -/
def xRow (T : ZTab) (lo : Nat) (s : ZSt) (r i : ZT) (rest : ZSs) (k : List Nat) : Option (ZSt × List Nat) := match r.1 with
  | .ofNat c => bif zleq r.2 [] && (Nat.ble 1 c && (Nat.blt c T.1 && (Nat.beq (T.2.1 c) 6 || (Nat.beq (T.2.1 c) 7 || Nat.beq (T.2.1 c) 8)))) then (bif Nat.ble 1 (T.2.2.2.2 c).2 then (bif Nat.beq (T.2.2.1 c) (T.2.2.2.2 c).2 then (match zwi s.2.2.1 0 ((T.2.2.2.2 c).2 - 1) i k with
    | some k => some (zpush s rest 2 (zpl (zsm (Int.ofNat (zst T c)) i) (Int.ofNat (T.2.2.2.2 c).1)), k)
    | none => none) else none) else (match zix s.2.2.1 (zc (Int.ofNat (T.2.2.1 c))) i k with
    | some k => zrd lo s rest 2 r i (fun _ => []) k
    | none => none)) else none
  | .negSucc _ => none
/-- atoms behind a write at (r, i) -/
def zevn : List (Nat × Int) → Bool
  | [] => true
  | q :: r => zI0 (q.2 % 2) && zevn r
theorem zevn_of (ρ : Nat → Int) : ∀ {l : List (Nat × Int)}, zevn l = true → ∃ m : Int, zl ρ l = 2 * m
  | [], _ => ⟨0, rfl⟩
  | q :: r, h => by
    obtain ⟨h1, h2⟩ := andB h
    obtain ⟨m, hm⟩ := zevn_of ρ h2
    have h1 := zI0_of h1
    have e : q.2 = 2 * (q.2 / 2) := by omega
    refine ⟨(q.2 / 2) * ρ q.1 + m, ?_⟩
    show q.2 * ρ q.1 + zl ρ r = _
    rw [hm]
    generalize q.2 / 2 = u at e ⊢
    rw [e, Int.mul_add, Int.mul_assoc]
def znz (t : ZT) : Bool := (zleq t.2 [] && !(zI0 t.1)) || (zevn t.2 && zI0 ((t.1 + 1) % 2))
theorem znz_of {t : ZT} (h : znz t = true) (ρ : Nat → Int) : zv ρ t ≠ 0 := by
  unfold znz at h
  rw [Bool.or_eq_true] at h
  rcases h with h | h
  rotate_left
  · obtain ⟨h1, h2⟩ := andB h
    obtain ⟨m, hm⟩ := zevn_of ρ h1
    have h2 := zI0_of h2
    unfold zv
    rw [hm]
    omega
  obtain ⟨h1, h2⟩ := andB h
  have : zv ρ t = t.1 := by
    unfold zv
    rw [zleq_of h1]
    exact Int.add_zero _
  rw [this]
  exact zI0_no (notB h2)
def wrA (F : List ZT) (r i : ZT) : List ZA → List Nat → Option (List ZA × List Nat)
  | [], k => some ([], k)
  | a :: l, k => bif znz (zsb a.1 r) || znz (zsb a.2.1 i) then (match wrA F r i l k with
      | some (l, k) => some (a :: l, k)
      | none => none) else match k with
    | 0 :: k => wrA F r i l k
    | 1 :: k => (match rdC k with
      | (c, k) => bif zcert F c (zpl (zsb a.2.1 i) (-1)) then (match wrA F r i l k with
        | some (l, k) => some (a :: l, k)
        | none => none) else none)
    | 2 :: k => (match rdC k with
      | (c, k) => bif zcert F c (zpl (zsb i a.2.1) (-1)) then (match wrA F r i l k with
        | some (l, k) => some (a :: l, k)
        | none => none) else none)
    | 3 :: k => (match rdC k with
      | (c, k) => bif zcert F c (zpl (zsb a.1 r) (-1)) then (match wrA F r i l k with
        | some (l, k) => some (a :: l, k)
        | none => none) else none)
    | 4 :: k => (match rdC k with
      | (c, k) => bif zcert F c (zpl (zsb r a.1) (-1)) then (match wrA F r i l k with
        | some (l, k) => some (a :: l, k)
        | none => none) else none)
    | _ => none
theorem wrA_of {F : List ZT} {ρ : Nat → Int} (hF : ∀ f ∈ F, 0 ≤ zv ρ f) {r i : ZT} {h h2 : MH} (hw : ∀ r' i', ¬ (r' = zv ρ r ∧ i' = zv ρ i) → gz h2 r' i' = gz h r' i') : ∀ {l l' : List ZA} {k k' : List Nat}, (∀ a ∈ l, zA ρ h a) → wrA F r i l k = some (l', k') → ∀ a ∈ l', zA ρ h2 a
  | [], l', k, k', _, e, a, ha => by cases e; exact absurd ha List.not_mem_nil
  | b :: l, l', k, k', B, e, a, ha => by
    have keep : ¬ (zv ρ b.1 = zv ρ r ∧ zv ρ b.2.1 = zv ρ i) → ∀ {k1 : List Nat}, (match wrA F r i l k1 with
        | some (l, k) => some (b :: l, k)
        | none => none) = some (l', k') → zA ρ h2 a := fun n {k1} e => by
      split at e
      · next l1 k2 e1 =>
        cases e
        rcases List.mem_cons.mp ha with w | w
        · subst w
          unfold zA
          rw [hw _ _ n]
          exact B _ List.mem_cons_self
        · exact wrA_of hF hw (fun x hx => B x (List.mem_cons_of_mem _ hx)) e1 a w
      · cases e
    unfold wrA at e
    cases e1 : (znz (zsb b.1 r) || znz (zsb b.2.1 i)) with
    | true =>
      rw [e1] at e
      refine keep (fun w => ?_) e
      rw [Bool.or_eq_true] at e1
      rcases e1 with z | z
      · have := znz_of z ρ
        rw [zsb_v] at this
        omega
      · have := znz_of z ρ
        rw [zsb_v] at this
        omega
    | false =>
      rw [e1, cond_false] at e
      split at e
      · exact wrA_of hF hw (fun x hx => B x (List.mem_cons_of_mem _ hx)) e a ha
      · split at e
        next c k1 e2 =>
        cases e3 : zcert F c (zpl (zsb b.2.1 i) (-1)) with
        | false => rw [e3] at e; cases e
        | true =>
          rw [e3] at e
          have z := zcert_of hF e3
          rw [zpl_v, zsb_v] at z
          exact keep (fun w => by omega) e
      · split at e
        next c k1 e2 =>
        cases e3 : zcert F c (zpl (zsb i b.2.1) (-1)) with
        | false => rw [e3] at e; cases e
        | true =>
          rw [e3] at e
          have z := zcert_of hF e3
          rw [zpl_v, zsb_v] at z
          exact keep (fun w => by omega) e
      · split at e
        next c k1 e2 =>
        cases e3 : zcert F c (zpl (zsb b.1 r) (-1)) with
        | false => rw [e3] at e; cases e
        | true =>
          rw [e3] at e
          have z := zcert_of hF e3
          rw [zpl_v, zsb_v] at z
          exact keep (fun w => by omega) e
      · split at e
        next c k1 e2 =>
        cases e3 : zcert F c (zpl (zsb r b.1) (-1)) with
        | false => rw [e3] at e; cases e
        | true =>
          rw [e3] at e
          have z := zcert_of hF e3
          rw [zpl_v, zsb_v] at z
          exact keep (fun w => by omega) e
      · cases e
/-- a clause's equations behind a write: each one that may be the place written is taken both ways -/
def wrE (G : ZG) (lo n : Nat) (w : ZR) (r i v : ZT) (gs cs : List ZT) : List ZE → Bool → ZK → List Nat → Option (List Nat)
  | [], al, K, k => bif al then gpr G lo cs n (gs ++ K.1, K.2) k else some k
  | e :: es, al, K, k => bif zdis e.1 w then wrE G lo n w r i v gs cs es al (K.1, K.2.1, e.2 :: K.2.2.1, K.2.2.2) k else
    match wrE G lo n w r i v gs cs es true (zsb e.2.1 r :: zsb r e.2.1 :: zsb e.2.2.1 i :: zsb i e.2.2.1 :: zsb e.2.2.2 v :: zsb v e.2.2.2 :: K.1, K.2) k with
    | some k => wrE G lo n w r i v gs cs es al (K.1, K.2.1, e.2 :: K.2.2.1, K.2.2.2) k
    | none => none
section VW
variable {G : ZG} {lo n : Nat} {w : ZR} {r i v : ZT} {gs cs : List ZT} {β : Nat → Int} {h h2 : MH}
theorem wrE_of (hw : ∀ r' i', gz h2 r' i' = if r' = zv β r ∧ i' = zv β i then zv β v else gz h r' i') (iw : inZ w (zv β r) (zv β i)) (hg : ∀ g ∈ gs, 0 ≤ zv β g) : ∀ {es : List ZE} {al : Bool} {K : ZK} {k k' : List Nat}, Kn G β h K → wrE G lo n w r i v gs cs es al K k = some k' → (∀ e ∈ es, zE β h2 e) → (al = true → True) → (∀ c ∈ cs, 0 ≤ zv β c) ∨ (al = false ∧ ∀ e ∈ es, zE β h e)
  | [], al, K, k, k', B, e, hh, _ => by
    cases al with
    | false => exact Or.inr ⟨rfl, fun e he => absurd he List.not_mem_nil⟩
    | true => exact Or.inl (gpr_of (B.facts hg) e)
  | x :: es, al, K, k, k', B, e, hh, ha => by
    have hx := hh x List.mem_cons_self
    have ht : ∀ e ∈ es, zE β h2 e := fun y hy => hh y (List.mem_cons_of_mem _ hy)
    have off : ∀ {k1 : List Nat}, ¬ (zv β x.2.1 = zv β r ∧ zv β x.2.2.1 = zv β i) → wrE G lo n w r i v gs cs es al (K.1, K.2.1, x.2 :: K.2.2.1, K.2.2.2) k1 = some k' → (∀ c ∈ cs, 0 ≤ zv β c) ∨ (al = false ∧ ∀ e ∈ x :: es, zE β h e) := fun {k1} ne e => by
      have q := hx.2
      rw [hw, if_neg ne] at q
      rcases wrE_of hw iw hg (B.atom q) e ht ha with z | z
      · exact Or.inl z
      · exact Or.inr ⟨z.1, List.forall_mem_cons.mpr ⟨⟨hx.1, q⟩, z.2⟩⟩
    unfold wrE at e
    cases e1 : zdis x.1 w with
    | true =>
      rw [e1] at e
      exact off (fun z => zdis_of e1 hx.1 (by rw [z.1, z.2]; exact iw)) e
    | false =>
      rw [e1] at e
      replace e : (match wrE G lo n w r i v gs cs es true (zsb x.2.1 r :: zsb r x.2.1 :: zsb x.2.2.1 i :: zsb i x.2.2.1 :: zsb x.2.2.2 v :: zsb v x.2.2.2 :: K.1, K.2) k with
        | some k => wrE G lo n w r i v gs cs es al (K.1, K.2.1, x.2 :: K.2.2.1, K.2.2.2) k
        | none => none) = some k' := e
      split at e
      · next k1 e2 =>
        by_cases q : zv β x.2.1 = zv β r ∧ zv β x.2.2.1 = zv β i
        · have q3 := hx.2
          rw [hw, if_pos q] at q3
          have B2 := (((((B.fact (g := zsb v x.2.2.2) (by rw [zsb_v]; omega)).fact (g := zsb x.2.2.2 v) (by rw [zsb_v]; omega)).fact (g := zsb i x.2.2.1) (by rw [zsb_v]; omega)).fact (g := zsb x.2.2.1 i) (by rw [zsb_v]; omega)).fact (g := zsb r x.2.1) (by rw [zsb_v]; omega)).fact (g := zsb x.2.1 r) (by rw [zsb_v]; omega)
          rcases wrE_of hw iw hg B2 e2 ht (fun _ => trivial) with z | z
          · exact Or.inl z
          · cases z.1
        · exact off q e
      · cases e
end VW
/-- clauses behind a write -/
def wrV (G : ZG) (T : ZTab) (lo n : Nat) (K : ZK) (w : ZR) (r i v : ZT) : List ZC → List Nat → Option (List ZC × List Nat)
  | [], k => some ([], k)
  | c :: l, k => bif zkpC G [w] T.1 c then (match wrV G T lo n K w r i v l k with
      | some (l, k) => some (c :: l, k)
      | none => none) else match k with
    | 0 :: k => wrV G T lo n K w r i v l k
    | 1 :: k => (match zbody G c with
      | some b => bif !(zocK (fun u => zmem u b.1) K) && (!(zoc (fun u => zmem u b.1) r) && (!(zoc (fun u => zmem u b.1) i) && (!(zoc (fun u => zmem u b.1) v) && (Nat.beq c.1 0 || !(zocB (fun u => !(zmem u b.1)) b))))) then (match wrE G lo n w r i v b.2.2.1 b.2.2.2 b.2.1 false K k with
        | some k => (match wrV G T lo n K w r i v l k with
          | some (l, k) => some (c :: l, k)
          | none => none)
        | none => none) else none
      | none => none)
    | _ => none
theorem wrV_of {G : ZG} (gk : GOk G) {T : ZTab} {lo n : Nat} {K : ZK} {w : ZR} {r i v : ZT} {ρ : Nat → Int} {h : MH} (B : Kn G ρ h K) (g : StrZ T h) (r0 : 0 ≤ zv ρ r) (i0 : 0 ≤ zv ρ i) (iK : zv ρ i < 1099511627776) (iw : inZ w (zv ρ r) (zv ρ i)) : ∀ {l l' : List ZC} {k k' : List Nat}, (∀ c ∈ l, zCl G ρ h c) → wrV G T lo n K w r i v l k = some (l', k') → ∀ c ∈ l', zCl G ρ (hset h (zv ρ r).toNat (zv ρ i).toNat (zv ρ v)) c
  | [], l', k, k', _, e, c, hc => by cases e; exact absurd hc List.not_mem_nil
  | d :: l, l', k, k', Bl, e, c, hc => by
    have Bt : ∀ c ∈ l, zCl G ρ h c := fun x hx => Bl x (List.mem_cons_of_mem _ hx)
    have fin : zCl G ρ (hset h (zv ρ r).toNat (zv ρ i).toNat (zv ρ v)) d → ∀ {k1 : List Nat}, (match wrV G T lo n K w r i v l k1 with
        | some (l, k) => some (d :: l, k)
        | none => none) = some (l', k') → zCl G ρ (hset h (zv ρ r).toNat (zv ρ i).toNat (zv ρ v)) c := fun hd {k1} e => by
      split at e
      · next l1 k2 e1 =>
        cases e
        rcases List.mem_cons.mp hc with z | z
        · exact z ▸ hd
        · exact wrV_of gk B g r0 i0 iK iw Bt e1 c z
      · cases e
    unfold wrV at e
    cases e1 : zkpC G [w] T.1 d with
    | true =>
      rw [e1] at e
      exact fin (zCl_kp gk (Frm.write (M := [w]) r0 i0 iK List.mem_cons_self iw) g.1.1 e1 (Bl d List.mem_cons_self)) e
    | false =>
      rw [e1, cond_false] at e
      split at e
      · exact wrV_of gk B g r0 i0 iK iw Bt e c hc
      · next k1 =>
        split at e
        · next b hb =>
          cases e2 : (!(zocK (fun u => zmem u b.1) K) && (!(zoc (fun u => zmem u b.1) r) && (!(zoc (fun u => zmem u b.1) i) && (!(zoc (fun u => zmem u b.1) v) && (Nat.beq d.1 0 || !(zocB (fun u => !(zmem u b.1)) b)))))) with
          | false => rw [e2] at e; cases e
          | true =>
            rw [e2, cond_true] at e
            obtain ⟨h1, h2⟩ := andB e2
            obtain ⟨h2, h3⟩ := andB h2
            obtain ⟨h3, h4⟩ := andB h3
            obtain ⟨h4, h5⟩ := andB h4
            split at e
            · next k2 e3 =>
              refine fin (zCl_of hb (fun hn => ?_) ?_) e
              · rw [Bool.or_eq_true] at h5
                rcases h5 with z | z
                · exact absurd (beqN z) hn
                · exact notB z
              · intro β hβ he hg
                have er := zoc_no (notB h2) hβ
                have ei := zoc_no (notB h3) hβ
                have ev := zoc_no (notB h4) hβ
                rcases wrE_of (β := β) (h := h) (fun r' i' => by rw [gz_set r0 i0 iK, er, ei, ev]) (by rw [er, ei]; exact iw) hg (B.cg (notB h1) hβ) e3 he (fun _ => trivial) with z | z
                · exact z
                · exact zbody_of hb (Bl d List.mem_cons_self) β hβ z.2 hg
            · cases e
        · cases e
      · cases e
def zwR (lo hi : Nat) (i : ZT) : ZR := match i.2, i.1 with
  | [], .ofNat j => (lo, hi, j, j)
  | _, _ => (lo, hi, 1, 0)
theorem zwR_of {ρ : Nat → Int} {lo hi : Nat} {r i : ZT} (a : (lo : Int) ≤ zv ρ r) (b : hi = 0 ∨ zv ρ r ≤ (hi : Int)) : inZ (zwR lo hi i) (zv ρ r) (zv ρ i) := by
  unfold zwR
  split
  · next j e1 e2 =>
    have : zv ρ i = (j : Int) := by
      unfold zv
      rw [e1, e2]
      exact Int.add_zero _
    exact ⟨⟨a, b⟩, Or.inr ⟨by show (j : Int) ≤ _; omega, by show _ ≤ (j : Int); omega⟩⟩
  · exact ⟨⟨a, b⟩, Or.inl (by decide : (0 : Nat) < 1)⟩
/-- of what is written: never the kind, nor the length -/
def zwW (lo hi : Nat) (i : ZT) : ZR := match i.2, i.1 with
  | [], .ofNat j => (lo, hi, j, j)
  | _, _ => (lo, hi, 0, 1099511627775)
theorem zwW_of {ρ : Nat → Int} {lo hi : Nat} {r i : ZT} (a : (lo : Int) ≤ zv ρ r) (b : hi = 0 ∨ zv ρ r ≤ (hi : Int)) (i0 : 0 ≤ zv ρ i) (iK : zv ρ i < 1099511627776) : inZ (zwW lo hi i) (zv ρ r) (zv ρ i) := by
  unfold zwW
  split
  · next j e1 e2 =>
    have : zv ρ i = (j : Int) := by
      unfold zv
      rw [e1, e2]
      exact Int.add_zero _
    exact ⟨⟨a, b⟩, Or.inr ⟨by show (j : Int) ≤ _; omega, by show _ ≤ (j : Int); omega⟩⟩
  · exact ⟨⟨a, b⟩, Or.inr ⟨i0, by show _ ≤ (1099511627775 : Int); omega⟩⟩
/-- v is written at (r, i) -/
def xWr (G : ZG) (T : ZTab) (M : List ZR) (lo n : Nat) (s : ZSt) (c1 c2 : Nat) (r i v : ZT) (rest : ZSs) (k : List Nat) : Option (ZSt × List Nat) := match k with
  | m :: k => (match zget M m with
    | some q => bif zsubR (zwW c1 c2 i) q then (match wrA s.2.2.1 r i s.2.2.2.2.1 k with
      | some (A, k) => (match wrV G T lo n s.2.2 (zwW c1 c2 i) r i v s.2.2.2.2.2 k with
        | some (V, k) => some ((s.1, rest, (s.2.2.1, s.2.2.2.1, (r, i, v) :: A, V)), k)
        | none => none)
      | none => none) else none
    | none => none)
  | [] => none
theorem xWr_of {G : ZG} (gk : GOk G) {T : ZTab} {M : List ZR} {lo n : Nat} {s s' : ZSt} {c1 c2 : Nat} {r i v : ZT} {rest : ZSs} {ρ : Nat → Int} {h : MH} {k k' : List Nat} (B : Kn G ρ h s.2.2) (g : StrZ T h) (r0 : 0 ≤ zv ρ r) (i0 : 0 ≤ zv ρ i) (iK : zv ρ i < 1099511627776) (a : (c1 : Int) ≤ zv ρ r) (b : c2 = 0 ∨ zv ρ r ≤ (c2 : Int)) (e : xWr G T M lo n s c1 c2 r i v rest k = some (s', k')) : Kn G ρ (hset h (zv ρ r).toNat (zv ρ i).toNat (zv ρ v)) s'.2.2 ∧ s'.1 = s.1 ∧ s'.2.1 = rest ∧ Frm M h (hset h (zv ρ r).toNat (zv ρ i).toNat (zv ρ v)) := by
  unfold xWr at e
  split at e
  · next m k1 =>
    split at e
    · next q hq =>
      cases e1 : zsubR (zwW c1 c2 i) q with
      | false => rw [e1] at e; cases e
      | true =>
        rw [e1] at e
        replace e : (match wrA s.2.2.1 r i s.2.2.2.2.1 k1 with
          | some (A, k) => (match wrV G T lo n s.2.2 (zwW c1 c2 i) r i v s.2.2.2.2.2 k with
            | some (V, k) => some ((s.1, rest, (s.2.2.1, s.2.2.2.1, (r, i, v) :: A, V)), k)
            | none => none)
          | none => none) = some (s', k') := e
        have iw := zwW_of (i := i) a b i0 iK
        split at e
        · next A k2 e2 =>
          split at e
          · next V k3 e3 =>
            cases e
            refine ⟨⟨B.1, B.2.1, List.forall_mem_cons.mpr ⟨?_, wrA_of B.1 (fun r' i' ne => by rw [gz_set r0 i0 iK, if_neg ne]) B.2.2.1 e2⟩, wrV_of gk B g r0 i0 iK iw B.2.2.2 e3⟩, rfl, rfl, Frm.write r0 i0 iK (zget_mem hq) (zsubR_of e1 iw)⟩
            unfold zA
            rw [gz_set r0 i0 iK, if_pos ⟨rfl, rfl⟩]
          · cases e
        · cases e
    · cases e
  · cases e
