/-! quotients, bits, least and greatest, one number into another -/
theorem tdiv_in {x y : Int} {lo hi : Int} (hy : 1 ≤ y) (a : lo ≤ x) (b : x ≤ hi) (l0 : lo ≤ 0) (h0 : 0 ≤ hi) : lo ≤ x.tdiv y ∧ x.tdiv y ≤ hi := by
  by_cases q : 0 ≤ x
  · have := m_tdivP (x := x) (y := y) q (by omega)
    omega
  · have p := m_tdivP (x := -x) (y := y) (by omega) (by omega)
    rw [Int.neg_tdiv] at p
    omega
theorem tmod_in {t : Nat} {x : Int} (y : Int) (a : tlo t ≤ x) (b : x ≤ thi t) : tlo t ≤ x.tmod y ∧ x.tmod y ≤ thi t := by
  match t, a, b with
  | 0, a, b => exact mI_tmr ⟨a, b⟩
  | t + 1, a, b => exact mL_tmr ⟨a, b⟩
theorem tlo0 (t : Nat) : tlo t ≤ 0 ∧ 0 ≤ thi t := by
  match t with
  | 0 => exact ⟨by decide, by decide⟩
  | t + 1 => exact ⟨(by decide : (-9223372036854775808 : Int) ≤ 0), (by decide : (0 : Int) ≤ 9223372036854775807)⟩
theorem tdiv_c {x c : Int} (hc : 1 ≤ c) : 0 ≤ x - c * x.tdiv c + (c - 1) ∧ 0 ≤ c * x.tdiv c + (c - 1) - x ∧ x.tmod c = x - c * x.tdiv c ∧ (0 ≤ x → 0 ≤ x - c * x.tdiv c) := by
  have e : x.tmod c = x - c * x.tdiv c := Int.tmod_def x c
  have b := m_tmodG (x := x) (y := c) (M := c) (by omega) (by omega) (by omega)
  refine ⟨by omega, by omega, e, fun h => ?_⟩
  have := m_tmodP (x := x) (y := c) h (by omega)
  omega
/-- 0 quotient, 1 rest -/
def fdv (d : Nat) (x y : Int) : Int := match d with
  | 0 => x.tdiv y
  | _ => x.tmod y
def xDv (lo tag d : Nat) (s : ZSt) (x y : ZT) (rest : ZSs) (k : List Nat) : Option (ZSt × List Nat) := match k with
  | 0 :: n :: k => (match rdC k with
    | (c, k) => bif zIn (y.1 - 1) && (zleq y.2 [] && zcert s.2.2.1 c x) then (match zfresh lo s rest tag n (bif Nat.beq d 0 then zx n else zsb x (zsm y.1 (zx n))) [zsb x (zsm y.1 (zx n)), zsb (zpl (zsm y.1 (zx n)) (y.1 - 1)) x] [] with
      | some s' => some (s', k)
      | none => none) else none)
  | 1 :: n :: k => bif zIn (y.1 - 1) && zleq y.2 [] then (match zfresh lo s rest tag n (bif Nat.beq d 0 then zx n else zsb x (zsm y.1 (zx n))) [zpl (zsb x (zsm y.1 (zx n))) (y.1 - 1), zsb (zpl (zsm y.1 (zx n)) (y.1 - 1)) x] [] with
      | some s' => some (s', k)
      | none => none) else none
  | 2 :: n :: k => (match rdC k with
    | (c, k) => (match rdC k with
      | (c2, k) => bif zcert s.2.2.1 c (zpl y (-1)) && zcert s.2.2.1 c2 x then (match zfresh lo s rest tag n (zx n) (bif Nat.beq d 0 then [zx n, zsb x (zx n)] else [zx n, zpl (zsb y (zx n)) (-1), zsb x (zx n)]) [] with
        | some s' => some (s', k)
        | none => none) else none))
  | 3 :: n :: k => (match rdC k with
    | (c, k) => bif zcert s.2.2.1 c (zpl y (-1)) then (match zfresh lo s rest tag n (zx n) (bif Nat.beq d 0 then [] else [zpl (zsb y (zx n)) (-1), zpl (zadd y (zx n)) (-1)]) [] with
        | some s' => some (s', k)
        | none => none) else none)
  | 4 :: n :: k => (match rdC k with
    | (c, k) => bif zIn (y.1 - 1) && (zleq y.2 [] && zcert s.2.2.1 c (zsm (-1) x)) then (match zfresh lo s rest tag n (bif Nat.beq d 0 then zx n else zsb x (zsm y.1 (zx n))) [zsb (zsm y.1 (zx n)) x, zpl (zsb x (zsm y.1 (zx n))) (y.1 - 1)] [] with
      | some s' => some (s', k)
      | none => none) else none)
  | 5 :: n :: z :: k => (match rdCs 3 k with
    | (cs, k) => bif Nat.beq d 0 && zcerts s.2.2.1 cs [zpl y (-1), x, zpl (zsb (zsm (zzg z) y) x) (-1)] then (match zfresh lo s rest tag n (zx n) [zx n, zsb (zc (zzg z - 1)) (zx n)] [] with
      | some s' => some (s', k)
      | none => none) else none)
  | _ => none
section VB
variable {G : ZG} {lo tag : Nat} {ρ : Nat → Int} {h : MH} {s s' : ZSt} {rest : ZSs} {x y : ZT} {k k' : List Nat}
theorem all2 {α : Type} {P : α → Prop} {a b : α} (ha : P a) (hb : P b) : ∀ f ∈ [a, b], P f := List.forall_mem_cons.mpr ⟨ha, List.forall_mem_cons.mpr ⟨hb, fun _ q => absurd q List.not_mem_nil⟩⟩
theorem all3 {α : Type} {P : α → Prop} {a b c : α} (ha : P a) (hb : P b) (hc : P c) : ∀ f ∈ [a, b, c], P f := List.forall_mem_cons.mpr ⟨ha, all2 hb hc⟩
theorem xDv_of {d tx ty : Nat} (B : Kn G ρ h s.2.2) (hS : s.2.1 = (ty, y) :: (tx, x) :: rest) (rx : tlo tag ≤ zv ρ x ∧ zv ρ x ≤ thi tag) (e : xDv lo tag d s x y rest k = some (s', k')) : VOk G lo ρ h s s' rest tag (fdv d (zv ρ x) (zv ρ y)) ∧ zv ρ y ≠ 0 ∧ tlo tag ≤ fdv d (zv ρ x) (zv ρ y) ∧ fdv d (zv ρ x) (zv ρ y) ≤ thi tag := by
  have hr : ∀ q ∈ rest, q ∈ s.2.1 := fun q hq => by rw [hS]; exact List.mem_cons_of_mem _ (List.mem_cons_of_mem _ hq)
  have mx : (tx, x) ∈ s.2.1 := by rw [hS]; exact List.mem_cons_of_mem _ List.mem_cons_self
  have my : (ty, y) ∈ s.2.1 := by rw [hS]; exact List.mem_cons_self
  have rng : 1 ≤ zv ρ y → tlo tag ≤ fdv d (zv ρ x) (zv ρ y) ∧ fdv d (zv ρ x) (zv ρ y) ≤ thi tag := fun y1 => by
    match d with
    | 0 => exact tdiv_in y1 rx.1 rx.2 (tlo0 tag).1 (tlo0 tag).2
    | d + 1 => exact tmod_in _ rx.1 rx.2
  have cst : ∀ {w : List (Nat × Int)}, zleq y.2 w = true → w = [] → zv ρ y = y.1 := fun h1 h2 => by
    subst h2
    unfold zv
    rw [zleq_of h1]
    exact Int.add_zero _
  have val : ∀ {ρ' : Nat → Int} {n : Nat} {c : Int}, zv ρ' (zx n) = (zv ρ x).tdiv c → zv ρ' x = zv ρ x → 1 ≤ c → zv ρ y = c → zv ρ' (bif Nat.beq d 0 then zx n else zsb x (zsm c (zx n))) = fdv d (zv ρ x) (zv ρ y) := fun {ρ' n c} q1 q2 hc hy => by
    rw [hy]
    match d with
    | 0 => exact q1
    | d + 1 =>
      show zv ρ' (zsb x (zsm c (zx n))) = (zv ρ x).tmod c
      rw [zsb_v, zsm_v, q1, q2, (tdiv_c hc).2.2.1]
  unfold xDv at e
  split at e
  · next n k1 =>
    split at e
    next c k2 e1 =>
    cases e2 : (zIn (y.1 - 1) && (zleq y.2 [] && zcert s.2.2.1 c x)) with
    | false => rw [e2] at e; cases e
    | true =>
      rw [e2] at e
      obtain ⟨h1, h2⟩ := andB e2
      obtain ⟨h2, h3⟩ := andB h2
      have h1 := zIn_of h1
      have h3 := zcert_of B.1 h3
      have hy := cst h2 rfl
      replace e : (match zfresh lo s rest tag n (bif Nat.beq d 0 then zx n else zsb x (zsm y.1 (zx n))) [zsb x (zsm y.1 (zx n)), zsb (zpl (zsm y.1 (zx n)) (y.1 - 1)) x] [] with
        | some s' => some (s', k2)
        | none => none) = some (s', k') := e
      split at e
      · next s1 e3 =>
        cases e
        have c1 : 1 ≤ y.1 := by omega
        obtain ⟨t1, t2, t3, t4⟩ := tdiv_c (x := zv ρ x) c1
        have t4 := t4 h3
        refine ⟨zfresh_of B hr e3 _ ((zv ρ x).tdiv y.1) fun hq => ⟨val (zxu _ _ _) (hq _ mx) c1 hy, all2 ?_ ?_, noD⟩, by omega, rng (by omega)⟩
        · rw [zsb_v, zsm_v, zxu, (show _ = zv ρ x from hq _ mx)]; exact t4
        · rw [zsb_v, zpl_v, zsm_v, zxu, (show _ = zv ρ x from hq _ mx)]; omega
      · cases e
  · next n k1 =>
    cases e2 : (zIn (y.1 - 1) && zleq y.2 []) with
    | false => rw [e2] at e; cases e
    | true =>
      rw [e2] at e
      obtain ⟨h1, h2⟩ := andB e2
      have h1 := zIn_of h1
      have hy := cst h2 rfl
      replace e : (match zfresh lo s rest tag n (bif Nat.beq d 0 then zx n else zsb x (zsm y.1 (zx n))) [zpl (zsb x (zsm y.1 (zx n))) (y.1 - 1), zsb (zpl (zsm y.1 (zx n)) (y.1 - 1)) x] [] with
        | some s' => some (s', k1)
        | none => none) = some (s', k') := e
      split at e
      · next s1 e3 =>
        cases e
        have c1 : 1 ≤ y.1 := by omega
        obtain ⟨t1, t2, t3, t4⟩ := tdiv_c (x := zv ρ x) c1
        refine ⟨zfresh_of B hr e3 _ ((zv ρ x).tdiv y.1) fun hq => ⟨val (zxu _ _ _) (hq _ mx) c1 hy, all2 ?_ ?_, noD⟩, by omega, rng (by omega)⟩
        · rw [zpl_v, zsb_v, zsm_v, zxu, (show _ = zv ρ x from hq _ mx)]; exact t1
        · rw [zsb_v, zpl_v, zsm_v, zxu, (show _ = zv ρ x from hq _ mx)]; omega
      · cases e
  · next n k1 =>
    split at e
    next c k2 e1 =>
    split at e
    next c2 k3 e1b =>
    cases e2 : (zcert s.2.2.1 c (zpl y (-1)) && zcert s.2.2.1 c2 x) with
    | false => rw [e2] at e; cases e
    | true =>
      rw [e2] at e
      obtain ⟨h1, h2⟩ := andB e2
      have h1 := zcert_of B.1 h1
      have h2 := zcert_of B.1 h2
      rw [zpl_v] at h1
      replace e : (match zfresh lo s rest tag n (zx n) (bif Nat.beq d 0 then [zx n, zsb x (zx n)] else [zx n, zpl (zsb y (zx n)) (-1), zsb x (zx n)]) [] with
        | some s' => some (s', k3)
        | none => none) = some (s', k') := e
      split at e
      · next s1 e3 =>
        cases e
        refine ⟨zfresh_of B hr e3 _ (fdv d (zv ρ x) (zv ρ y)) fun hq => ⟨zxu _ _ _, ?_, noD⟩, by omega, rng (by omega)⟩
        match d with
        | 0 =>
          have p := m_tdivP (x := zv ρ x) (y := zv ρ y) h2 (by omega)
          refine all2 ?_ ?_
          · rw [zxu]; exact p.1
          · rw [zsb_v, zxu, (show _ = zv ρ x from hq _ mx)]
            show 0 ≤ zv ρ x - (zv ρ x).tdiv (zv ρ y)
            omega
        | d + 1 =>
          have p := m_tmodP (x := zv ρ x) (y := zv ρ y) h2 (by omega)
          refine all3 ?_ ?_ ?_
          · rw [zxu]; exact p.1
          · rw [zpl_v, zsb_v, zxu, (show _ = zv ρ y from hq _ my)]
            show 0 ≤ zv ρ y - (zv ρ x).tmod (zv ρ y) + -1
            omega
          · rw [zsb_v, zxu, (show _ = zv ρ x from hq _ mx)]
            show 0 ≤ zv ρ x - (zv ρ x).tmod (zv ρ y)
            omega
      · cases e
  · next n k1 =>
    split at e
    next c k2 e1 =>
    cases e2 : zcert s.2.2.1 c (zpl y (-1)) with
    | false => rw [e2] at e; cases e
    | true =>
      rw [e2] at e
      have h1 := zcert_of B.1 e2
      rw [zpl_v] at h1
      replace e : (match zfresh lo s rest tag n (zx n) (bif Nat.beq d 0 then [] else [zpl (zsb y (zx n)) (-1), zpl (zadd y (zx n)) (-1)]) [] with
        | some s' => some (s', k2)
        | none => none) = some (s', k') := e
      split at e
      · next s1 e3 =>
        cases e
        refine ⟨zfresh_of B hr e3 _ (fdv d (zv ρ x) (zv ρ y)) fun hq => ⟨zxu _ _ _, ?_, noD⟩, by omega, rng (by omega)⟩
        match d with
        | 0 => exact noF
        | d + 1 =>
          have p := m_tmodG (x := zv ρ x) (y := zv ρ y) (M := zv ρ y) (by omega) (by omega) (by omega)
          refine all2 ?_ ?_
          · rw [zpl_v, zsb_v, zxu, (show _ = zv ρ y from hq _ my)]
            show 0 ≤ zv ρ y - (zv ρ x).tmod (zv ρ y) + -1
            omega
          · rw [zpl_v, zadd_v, zxu, (show _ = zv ρ y from hq _ my)]
            show 0 ≤ zv ρ y + (zv ρ x).tmod (zv ρ y) + -1
            omega
      · cases e
  · next n k1 =>
    split at e
    next c k2 e1 =>
    cases e2 : (zIn (y.1 - 1) && (zleq y.2 [] && zcert s.2.2.1 c (zsm (-1) x))) with
    | false => rw [e2] at e; cases e
    | true =>
      rw [e2] at e
      obtain ⟨h1, h2⟩ := andB e2
      obtain ⟨h2, h3⟩ := andB h2
      have h1 := zIn_of h1
      have h3 := zcert_of B.1 h3
      have hy := cst h2 rfl
      replace e : (match zfresh lo s rest tag n (bif Nat.beq d 0 then zx n else zsb x (zsm y.1 (zx n))) [zsb (zsm y.1 (zx n)) x, zpl (zsb x (zsm y.1 (zx n))) (y.1 - 1)] [] with
        | some s' => some (s', k2)
        | none => none) = some (s', k') := e
      split at e
      · next s1 e3 =>
        cases e
        have c1 : 1 ≤ y.1 := by omega
        obtain ⟨t1, t2, t3, t4⟩ := tdiv_c (x := zv ρ x) c1
        rw [zsm_v] at h3
        have t5 := (tdiv_c (x := -zv ρ x) c1).2.2.2 (by omega)
        rw [Int.neg_tdiv, Int.mul_neg] at t5
        refine ⟨zfresh_of B hr e3 _ ((zv ρ x).tdiv y.1) fun hq => ⟨val (zxu _ _ _) (hq _ mx) c1 hy, all2 ?_ ?_, noD⟩, by omega, rng (by omega)⟩
        · rw [zsb_v, zsm_v, zxu, (show _ = zv ρ x from hq _ mx)]; omega
        · rw [zpl_v, zsb_v, zsm_v, zxu, (show _ = zv ρ x from hq _ mx)]; omega
      · cases e
  · next n z k1 =>
    split at e
    next cs k2 e1 =>
    cases e2 : (Nat.beq d 0 && zcerts s.2.2.1 cs [zpl y (-1), x, zpl (zsb (zsm (zzg z) y) x) (-1)]) with
    | false => rw [e2] at e; cases e
    | true =>
      rw [e2] at e
      obtain ⟨h0, h1⟩ := andB e2
      have h0 := beqN h0
      subst h0
      have c := zcerts_of B.1 h1
      have c1 := c _ List.mem_cons_self
      have c2 := c _ (List.mem_cons_of_mem _ List.mem_cons_self)
      have c3 := c _ (List.mem_cons_of_mem _ (List.mem_cons_of_mem _ List.mem_cons_self))
      rw [zpl_v] at c1
      rw [zpl_v, zsb_v, zsm_v] at c3
      replace e : (match zfresh lo s rest tag n (zx n) [zx n, zsb (zc (zzg z - 1)) (zx n)] [] with
        | some s' => some (s', k2)
        | none => none) = some (s', k') := e
      split at e
      · next s1 e3 =>
        cases e
        have p := m_tdivP (x := zv ρ x) (y := zv ρ y) c2 (by omega)
        refine ⟨zfresh_of B hr e3 _ (fdv 0 (zv ρ x) (zv ρ y)) fun hq => ⟨zxu _ _ _, all2 ?_ ?_, noD⟩, by omega, rng (by omega)⟩
        · rw [zxu]; exact p.1
        · rw [zsb_v, zc_v, zxu]
          show 0 ≤ zzg z - 1 - (zv ρ x).tdiv (zv ρ y)
          have u : (zv ρ x).tdiv (zv ρ y) < zzg z := by
            rw [Int.tdiv_eq_ediv_of_nonneg c2]
            exact Int.ediv_lt_of_lt_mul (by omega) (by omega)
          omega
      · cases e
  · cases e
end VB
/-- 0 and, 1 or, 2 exclusive or, 3 to the left, 4 to the right -/
def fbt (tag o : Nat) (x y : Int) : Int := match tag, o with
  | 0, 0 => (Int32.ofInt x &&& Int32.ofInt y).toInt
  | 0, 1 => (Int32.ofInt x ||| Int32.ofInt y).toInt
  | 0, 2 => (Int32.ofInt x ^^^ Int32.ofInt y).toInt
  | 0, 3 => (Int32.ofInt x <<< (Int32.ofInt y &&& 31)).toInt
  | 0, _ => (Int32.ofInt x >>> (Int32.ofInt y &&& 31)).toInt
  | _, 0 => (Int64.ofInt x &&& Int64.ofInt y).toInt
  | _, 1 => (Int64.ofInt x ||| Int64.ofInt y).toInt
  | _, 2 => (Int64.ofInt x ^^^ Int64.ofInt y).toInt
  | _, 3 => (Int64.ofInt x <<< ((Int32.ofInt y).toInt64 &&& 63)).toInt
  | _, _ => (Int64.ofInt x >>> ((Int32.ofInt y).toInt64 &&& 63)).toInt
theorem fbt_rng (tag o : Nat) (x y : Int) : tlo tag ≤ fbt tag o x y ∧ fbt tag o x y ≤ thi tag := by
  match tag, o with
  | 0, 0 => exact mI_rng _
  | 0, 1 => exact mI_rng _
  | 0, 2 => exact mI_rng _
  | 0, 3 => exact mI_rng _
  | 0, _ + 4 => exact mI_rng _
  | _ + 1, 0 => exact mL_rng _
  | _ + 1, 1 => exact mL_rng _
  | _ + 1, 2 => exact mL_rng _
  | _ + 1, 3 => exact mL_rng _
  | _ + 1, _ + 4 => exact mL_rng _
theorem fand_r {tag : Nat} {x y : Int} (h : 0 ≤ y) (b : y ≤ thi tag) : 0 ≤ fbt tag 0 x y ∧ fbt tag 0 x y ≤ y := by
  match tag, b with
  | 0, b => exact m_iandB h (Int.le_refl y) b
  | t + 1, b => exact m_landB h (Int.le_refl y) b
theorem fand_l {tag : Nat} {x y : Int} (h : 0 ≤ x) (b : x ≤ thi tag) : 0 ≤ fbt tag 0 x y ∧ fbt tag 0 x y ≤ x := by
  match tag, b with
  | 0, b => exact m_iandB' h (Int.le_refl x) b
  | t + 1, b => exact m_landB' h (Int.le_refl x) b
theorem fshr {tag : Nat} {x y : Int} (a : tlo tag ≤ x) (b : x ≤ thi tag) : ∃ n : Nat, fbt tag 4 x y = x >>> n := by
  match tag, a, b with
  | 0, a, b =>
    exact ⟨_, (m_ishrX _ _).trans (by rw [mI_toInt ⟨a, b⟩])⟩
  | t + 1, a, b =>
    exact ⟨_, (m_lshrX _ _).trans (by rw [mL_toInt ⟨a, b⟩])⟩
theorem fshrC {tag : Nat} {x : Int} {n : Nat} (a : tlo tag ≤ x) (b : x ≤ thi tag) (hn : n < 32) : fbt tag 4 x (n : Int) = x >>> n := by
  match tag, a, b with
  | 0, a, b =>
    refine (m_ishrX _ _).trans ?_
    rw [mI_toInt ⟨a, b⟩, m_sh32 n hn]
  | t + 1, a, b =>
    refine (m_lshrX _ _).trans ?_
    rw [mL_toInt ⟨a, b⟩, m_sh64 n (by omega)]
theorem fshlC {tag : Nat} {x : Int} {n : Nat} (a : 0 ≤ x) (b : x * 2 ^ n ≤ thi tag) (hn : n < 32) : fbt tag 3 x (n : Int) = x * 2 ^ n := by
  match tag, b with
  | 0, b => exact m_ishlC hn a b
  | t + 1, b => exact m_lshlC (by omega) a b
theorem p2c (m : Nat) : (2 : Int) ^ m = ((2 ^ m : Nat) : Int) := by rw [Int.natCast_pow]; rfl
theorem m_lorS {t y : Int} {m : Nat} (t0 : 0 ≤ t) (y0 : 0 ≤ y) (y1 : y < 2 ^ m) (b : 2 ^ m * t + y ≤ 9223372036854775807) : (Int64.ofInt (2 ^ m * t) ||| Int64.ofInt y).toInt = 2 ^ m * t + y := by
  obtain ⟨a, rfl⟩ := Int.eq_ofNat_of_zero_le t0
  obtain ⟨c, rfl⟩ := Int.eq_ofNat_of_zero_le y0
  rw [p2c] at y1
  have hc : c < 2 ^ m := Int.ofNat_lt.mp y1
  have e0 : (2 : Int) ^ m * (a : Int) = ((2 ^ m * a : Nat) : Int) := by rw [p2c, Int.natCast_mul]
  rw [e0] at b ⊢
  have e : (Int64.ofInt ((2 ^ m * a : Nat) : Int) ||| Int64.ofInt (c : Int)) = Int64.ofInt ((2 ^ m * a ||| c : Nat) : Int) := by
    rw [Int64.ofInt_eq_ofNat, Int64.ofInt_eq_ofNat, Int64.ofInt_eq_ofNat]
    refine Int64.toBitVec_inj.mp ?_
    rw [Int64.toBitVec_or]
    exact (BitVec.ofNat_or (w := 64) (x := 2 ^ m * a) (y := c)).symm
  rw [e, ← Nat.two_pow_add_eq_or_of_lt hc, Int64.toInt_ofInt_of_le (by omega) (by omega)]
  omega
theorem m_iorS {t y : Int} {m : Nat} (t0 : 0 ≤ t) (y0 : 0 ≤ y) (y1 : y < 2 ^ m) (b : 2 ^ m * t + y ≤ 2147483647) : (Int32.ofInt (2 ^ m * t) ||| Int32.ofInt y).toInt = 2 ^ m * t + y := by
  obtain ⟨a, rfl⟩ := Int.eq_ofNat_of_zero_le t0
  obtain ⟨c, rfl⟩ := Int.eq_ofNat_of_zero_le y0
  rw [p2c] at y1
  have hc : c < 2 ^ m := Int.ofNat_lt.mp y1
  have e0 : (2 : Int) ^ m * (a : Int) = ((2 ^ m * a : Nat) : Int) := by rw [p2c, Int.natCast_mul]
  rw [e0] at b ⊢
  have e : (Int32.ofInt ((2 ^ m * a : Nat) : Int) ||| Int32.ofInt (c : Int)) = Int32.ofInt ((2 ^ m * a ||| c : Nat) : Int) := by
    rw [Int32.ofInt_eq_ofNat, Int32.ofInt_eq_ofNat, Int32.ofInt_eq_ofNat]
    refine Int32.toBitVec_inj.mp ?_
    rw [Int32.toBitVec_or]
    exact (BitVec.ofNat_or (w := 32) (x := 2 ^ m * a) (y := c)).symm
  rw [e, ← Nat.two_pow_add_eq_or_of_lt hc, Int32.toInt_ofInt_of_le (by omega) (by omega)]
  omega
theorem m_landM {x : Int} {m : Nat} (x0 : 0 ≤ x) (x1 : x ≤ 9223372036854775807) : (Int64.ofInt x &&& Int64.ofInt (2 ^ m - 1)).toInt = x % 2 ^ m := by
  obtain ⟨a, rfl⟩ := Int.eq_ofNat_of_zero_le x0
  have hp : 0 < 2 ^ m := Nat.two_pow_pos m
  have e1 : (2 : Int) ^ m - 1 = ((2 ^ m - 1 : Nat) : Int) := by rw [p2c]; omega
  have e : (Int64.ofInt (a : Int) &&& Int64.ofInt ((2 ^ m - 1 : Nat) : Int)) = Int64.ofInt ((a &&& (2 ^ m - 1) : Nat) : Int) := by
    rw [Int64.ofInt_eq_ofNat, Int64.ofInt_eq_ofNat, Int64.ofInt_eq_ofNat]
    refine Int64.toBitVec_inj.mp ?_
    rw [Int64.toBitVec_and]
    exact (BitVec.ofNat_and (w := 64) (x := a) (y := 2 ^ m - 1)).symm
  have l : a % 2 ^ m ≤ a := Nat.mod_le _ _
  rw [e1, e, Nat.and_two_pow_sub_one_eq_mod, Int64.toInt_ofInt_of_le (by omega) (by omega), p2c, Int.natCast_emod]
theorem m_iandM {x : Int} {m : Nat} (x0 : 0 ≤ x) (x1 : x ≤ 2147483647) : (Int32.ofInt x &&& Int32.ofInt (2 ^ m - 1)).toInt = x % 2 ^ m := by
  obtain ⟨a, rfl⟩ := Int.eq_ofNat_of_zero_le x0
  have hp : 0 < 2 ^ m := Nat.two_pow_pos m
  have e1 : (2 : Int) ^ m - 1 = ((2 ^ m - 1 : Nat) : Int) := by rw [p2c]; omega
  have e : (Int32.ofInt (a : Int) &&& Int32.ofInt ((2 ^ m - 1 : Nat) : Int)) = Int32.ofInt ((a &&& (2 ^ m - 1) : Nat) : Int) := by
    rw [Int32.ofInt_eq_ofNat, Int32.ofInt_eq_ofNat, Int32.ofInt_eq_ofNat]
    refine Int32.toBitVec_inj.mp ?_
    rw [Int32.toBitVec_and]
    exact (BitVec.ofNat_and (w := 32) (x := a) (y := 2 ^ m - 1)).symm
  have l : a % 2 ^ m ≤ a := Nat.mod_le _ _
  rw [e1, e, Nat.and_two_pow_sub_one_eq_mod, Int32.toInt_ofInt_of_le (by omega) (by omega), p2c, Int.natCast_emod]
theorem forS {tag : Nat} {t y : Int} {m : Nat} (t0 : 0 ≤ t) (y0 : 0 ≤ y) (y1 : y < 2 ^ m) (b : 2 ^ m * t + y ≤ thi tag) : fbt tag 1 (2 ^ m * t) y = 2 ^ m * t + y := by
  match tag, b with
  | 0, b => exact m_iorS t0 y0 y1 b
  | k + 1, b => exact m_lorS t0 y0 y1 b
theorem fandM {tag : Nat} {x : Int} {m : Nat} (x0 : 0 ≤ x) (x1 : x ≤ thi tag) : fbt tag 0 x (2 ^ m - 1) = x % 2 ^ m := by
  match tag, x1 with
  | 0, b => exact m_iandM x0 b
  | k + 1, b => exact m_landM x0 b
def p2 (n : Nat) : Int := Int.ofNat (2 ^ n)
theorem p2_v (n : Nat) : p2 n = (2 : Int) ^ n := by
  show ((2 ^ n : Nat) : Int) = _
  exact_mod_cast rfl
def xBt (lo tag o : Nat) (s : ZSt) (x y : ZT) (rest : ZSs) (k : List Nat) : Option (ZSt × List Nat) := match k with
  | 0 :: n :: k => (match zfresh lo s rest tag n (zx n) [] [] with
    | some s' => some (s', k)
    | none => none)
  | 1 :: n :: k => (match zfresh lo s rest tag n (zx n) (rngF tag (zx n)) [] with
    | some s' => some (s', k)
    | none => none)
  | 2 :: n :: k => (match rdC k with
    | (c, k) => bif Nat.beq o 0 && zcert s.2.2.1 c y then (match zfresh lo s rest tag n (zx n) [zx n, zsb y (zx n)] [] with
      | some s' => some (s', k)
      | none => none) else none)
  | 3 :: n :: k => (match rdC k with
    | (c, k) => bif Nat.beq o 0 && zcert s.2.2.1 c x then (match zfresh lo s rest tag n (zx n) [zx n, zsb x (zx n)] [] with
      | some s' => some (s', k)
      | none => none) else none)
  | 4 :: n :: m :: k => bif Nat.beq o 1 && (Nat.beq tag 0 && Nat.ble m 31) then (match rdCs 4 k with
    | (cs, k) => bif zcerts s.2.2.1 cs [x, zsb (zc (p2 m - 1)) x, y, zsb (zc (p2 m - 1)) y] then (match zfresh lo s rest tag n (zx n) [zx n, zsb (zc (p2 m - 1)) (zx n)] [] with
      | some s' => some (s', k)
      | none => none) else none) else none
  | 5 :: m :: k => bif Nat.beq o 3 && (Nat.blt m 32 && zeq y (zc (Int.ofNat m))) then (match rdCs 2 k with
    | (cs, k) => bif zcerts s.2.2.1 cs [x, zsb (zc (thi tag)) (zsm (p2 m) x)] then some (zpush s rest tag (zsm (p2 m) x), k) else none) else none
  | 6 :: n :: m :: k => bif Nat.beq o 4 && (Nat.blt m 32 && zeq y (zc (Int.ofNat m))) then (match zfresh lo s rest tag n (zx n) [zsb x (zsm (p2 m) (zx n)), zsb (zpl (zsm (p2 m) (zx n)) (p2 m - 1)) x] [] with
      | some s' => some (s', k)
      | none => none) else none
  | 7 :: n :: m :: k => bif Nat.beq o 3 && (Nat.beq tag 0 && (Nat.ble m 30 && zeq x (zc 1))) then (match rdCs 2 k with
    | (cs, k) => bif zcerts s.2.2.1 cs [y, zsb (zc (Int.ofNat m)) y] then (match zfresh lo s rest tag n (zx n) [zpl (zx n) (-1), zsb (zc (p2 m)) (zx n)] [] with
      | some s' => some (s', k)
      | none => none) else none) else none
  | 8 :: n :: k => (match rdC k with
    | (c, k) => bif Nat.beq o 4 && zcert s.2.2.1 c x then (match zfresh lo s rest tag n (zx n) [zx n, zsb x (zx n)] [] with
      | some s' => some (s', k)
      | none => none) else none)
  | 9 :: m :: k => (match rdT k with
    | (t, k) => (match rdCs 4 k with
      | (cs, k) => bif Nat.beq o 1 && (zeq x (zsm (p2 m) t) && zcerts s.2.2.1 cs [t, y, zsb (zc (p2 m - 1)) y, zsb (zc (thi tag)) (zadd x y)]) then some (zpush s rest tag (zadd x y), k) else none))
  | 10 :: n :: m :: k => (match rdC k with
    | (c, k) => bif Nat.beq o 0 && (zeq y (zc (p2 m - 1)) && zcert s.2.2.1 c x) then (match zfresh lo s rest tag n (zsb x (zsm (p2 m) (zx n))) [zsb x (zsm (p2 m) (zx n)), zsb (zc (p2 m - 1)) (zsb x (zsm (p2 m) (zx n)))] [] with
      | some s' => some (s', k)
      | none => none) else none)
  | _ => none
section VC
variable {G : ZG} {lo tag : Nat} {ρ : Nat → Int} {h : MH} {s s' : ZSt} {rest : ZSs} {x y : ZT} {k k' : List Nat}
theorem xBt_of {o tx ty : Nat} (B : Kn G ρ h s.2.2) (hS : s.2.1 = (ty, y) :: (tx, x) :: rest) (rx : tlo tag ≤ zv ρ x ∧ zv ρ x ≤ thi tag) (ry : o < 3 → zv ρ y ≤ thi tag) (e : xBt lo tag o s x y rest k = some (s', k')) : VOk G lo ρ h s s' rest tag (fbt tag o (zv ρ x) (zv ρ y)) := by
  have hr : ∀ q ∈ rest, q ∈ s.2.1 := fun q hq => by rw [hS]; exact List.mem_cons_of_mem _ (List.mem_cons_of_mem _ hq)
  have mx : (tx, x) ∈ s.2.1 := by rw [hS]; exact List.mem_cons_of_mem _ List.mem_cons_self
  have my : (ty, y) ∈ s.2.1 := by rw [hS]; exact List.mem_cons_self
  have fr : ∀ {n : Nat} {fs : List ZT} {k1 : List Nat}, (match zfresh lo s rest tag n (zx n) fs [] with
      | some s' => some (s', k1)
      | none => none) = some (s', k') → ((∀ q ∈ s.2.1, zv (zup ρ n (fbt tag o (zv ρ x) (zv ρ y))) q.2 = zv ρ q.2) → ∀ f ∈ fs, 0 ≤ zv (zup ρ n (fbt tag o (zv ρ x) (zv ρ y))) f) → VOk G lo ρ h s s' rest tag (fbt tag o (zv ρ x) (zv ρ y)) := fun {n fs k1} e q => by
    split at e
    · next s1 e1 =>
      cases e
      exact zfresh_of B hr e1 _ (fbt tag o (zv ρ x) (zv ρ y)) fun hq => ⟨zxu _ _ _, q hq, noD⟩
    · cases e
  unfold xBt at e
  split at e
  · exact fr e fun _ => noF
  · exact fr e fun _ => rngF_of (by rw [zxu]; exact (fbt_rng _ _ _ _).1) (by rw [zxu]; exact (fbt_rng _ _ _ _).2)
  · next n k1 =>
    split at e
    next c k2 e1 =>
    cases e2 : (Nat.beq o 0 && zcert s.2.2.1 c y) with
    | false => rw [e2] at e; cases e
    | true =>
      rw [e2] at e
      obtain ⟨h1, h2⟩ := andB e2
      have h1 := beqN h1
      subst h1
      have h2 := zcert_of B.1 h2
      have p := fand_r (tag := tag) (x := zv ρ x) h2 (ry (by decide))
      exact fr e fun hq => all2 (by rw [zxu]; exact p.1) (by rw [zsb_v, zxu, (show _ = zv ρ y from hq _ my)]; omega)
  · next n k1 =>
    split at e
    next c k2 e1 =>
    cases e2 : (Nat.beq o 0 && zcert s.2.2.1 c x) with
    | false => rw [e2] at e; cases e
    | true =>
      rw [e2] at e
      obtain ⟨h1, h2⟩ := andB e2
      have h1 := beqN h1
      subst h1
      have h2 := zcert_of B.1 h2
      have p := fand_l (tag := tag) (y := zv ρ y) h2 rx.2
      exact fr e fun hq => all2 (by rw [zxu]; exact p.1) (by rw [zsb_v, zxu, (show _ = zv ρ x from hq _ mx)]; omega)
  · next n m k1 =>
    cases e2 : (Nat.beq o 1 && (Nat.beq tag 0 && Nat.ble m 31)) with
    | false => rw [e2] at e; cases e
    | true =>
      rw [e2] at e
      obtain ⟨h1, h2⟩ := andB e2
      obtain ⟨h2, h3⟩ := andB h2
      have h1 := beqN h1
      have h2 := beqN h2
      have h3 := bleN h3
      subst h1
      subst h2
      replace e : (match rdCs 4 k1 with
        | (cs, k) => bif zcerts s.2.2.1 cs [x, zsb (zc (p2 m - 1)) x, y, zsb (zc (p2 m - 1)) y] then (match zfresh lo s rest 0 n (zx n) [zx n, zsb (zc (p2 m - 1)) (zx n)] [] with
          | some s' => some (s', k)
          | none => none) else none) = some (s', k') := e
      split at e
      next cs k2 e3 =>
      cases e4 : zcerts s.2.2.1 cs [x, zsb (zc (p2 m - 1)) x, y, zsb (zc (p2 m - 1)) y] with
      | false => rw [e4] at e; cases e
      | true =>
        rw [e4] at e
        have z := zcerts_of B.1 e4
        have z1 := z x List.mem_cons_self
        have z2 := z _ (List.mem_cons_of_mem _ List.mem_cons_self)
        have z3 := z y (List.mem_cons_of_mem _ (List.mem_cons_of_mem _ List.mem_cons_self))
        have z4 := z _ (List.mem_cons_of_mem _ (List.mem_cons_of_mem _ (List.mem_cons_of_mem _ List.mem_cons_self)))
        rw [zsb_v, zc_v, p2_v] at z2 z4
        have p := m_iorB (x := zv ρ x) (y := zv ρ y) m h3 ⟨z1, by omega⟩ ⟨z3, by omega⟩
        refine fr e fun hq => all2 ?_ ?_
        · rw [zxu]; exact p.1
        · rw [zsb_v, zxu, zc_v, p2_v]
          show 0 ≤ 2 ^ m - 1 - (Int32.ofInt (zv ρ x) ||| Int32.ofInt (zv ρ y)).toInt
          omega
  · next m k1 =>
    cases e2 : (Nat.beq o 3 && (Nat.blt m 32 && zeq y (zc (Int.ofNat m)))) with
    | false => rw [e2] at e; cases e
    | true =>
      rw [e2] at e
      obtain ⟨h1, h2⟩ := andB e2
      obtain ⟨h2, h3⟩ := andB h2
      have h1 := beqN h1
      have h2 := bltN h2
      have h3 : zv ρ y = (m : Int) := by rw [zeq_of h3, zc_v]; rfl
      subst h1
      replace e : (match rdCs 2 k1 with
        | (cs, k) => bif zcerts s.2.2.1 cs [x, zsb (zc (thi tag)) (zsm (p2 m) x)] then some (zpush s rest tag (zsm (p2 m) x), k) else none) = some (s', k') := e
      split at e
      next cs k2 e3 =>
      cases e4 : zcerts s.2.2.1 cs [x, zsb (zc (thi tag)) (zsm (p2 m) x)] with
      | false => rw [e4] at e; cases e
      | true =>
        rw [e4] at e
        cases e
        have z := zcerts_of B.1 e4
        have z1 := z x List.mem_cons_self
        have z2 := z _ (List.mem_cons_of_mem _ List.mem_cons_self)
        rw [zsb_v, zc_v, zsm_v, p2_v, Int.mul_comm] at z2
        refine zpush_of B ?_
        rw [h3, fshlC z1 (by omega) h2, zsm_v, p2_v, Int.mul_comm]
  · next n m k1 =>
    cases e2 : (Nat.beq o 4 && (Nat.blt m 32 && zeq y (zc (Int.ofNat m)))) with
    | false => rw [e2] at e; cases e
    | true =>
      rw [e2] at e
      obtain ⟨h1, h2⟩ := andB e2
      obtain ⟨h2, h3⟩ := andB h2
      have h1 := beqN h1
      have h2 := bltN h2
      have h3 : zv ρ y = (m : Int) := by rw [zeq_of h3, zc_v]; rfl
      subst h1
      have p := m_shrP (zv ρ x) m
      have q : fbt tag 4 (zv ρ x) (zv ρ y) = zv ρ x >>> m := by rw [h3]; exact fshrC rx.1 rx.2 h2
      refine fr e fun hq => all2 ?_ ?_
      · rw [zsb_v, zsm_v, zxu, (show _ = zv ρ x from hq _ mx), q, p2_v, Int.mul_comm]; omega
      · rw [zsb_v, zpl_v, zsm_v, zxu, (show _ = zv ρ x from hq _ mx), q, p2_v, Int.mul_comm]; omega
  · next n m k1 =>
    cases e2 : (Nat.beq o 3 && (Nat.beq tag 0 && (Nat.ble m 30 && zeq x (zc 1)))) with
    | false => rw [e2] at e; cases e
    | true =>
      rw [e2] at e
      obtain ⟨h1, h2⟩ := andB e2
      obtain ⟨h2, h3⟩ := andB h2
      obtain ⟨h3, h4⟩ := andB h3
      have h1 := beqN h1
      have h2 := beqN h2
      have h3 := bleN h3
      have h4 : zv ρ x = 1 := by rw [zeq_of h4, zc_v]
      subst h1
      subst h2
      replace e : (match rdCs 2 k1 with
        | (cs, k) => bif zcerts s.2.2.1 cs [y, zsb (zc (Int.ofNat m)) y] then (match zfresh lo s rest 0 n (zx n) [zpl (zx n) (-1), zsb (zc (p2 m)) (zx n)] [] with
          | some s' => some (s', k)
          | none => none) else none) = some (s', k') := e
      split at e
      next cs k2 e3 =>
      cases e4 : zcerts s.2.2.1 cs [y, zsb (zc (Int.ofNat m)) y] with
      | false => rw [e4] at e; cases e
      | true =>
        rw [e4] at e
        have z := zcerts_of B.1 e4
        have z1 := z y List.mem_cons_self
        have z2 := z _ (List.mem_cons_of_mem _ List.mem_cons_self)
        rw [zsb_v, zc_v] at z2
        have z2 : zv ρ y ≤ (m : Int) := by
          have : Int.ofNat m = (m : Int) := rfl
          omega
        have p := m_ishl1B (y := zv ρ y) (a := 0) (b := m) (by show (0 : Int) ≤ _; exact z1) z2 h3
        have q : fbt 0 3 (zv ρ x) (zv ρ y) = (Int32.ofInt 1 <<< (Int32.ofInt (zv ρ y) &&& 31)).toInt := by rw [h4]; rfl
        have p0 : (2 : Int) ^ 0 = 1 := rfl
        rw [p0] at p
        refine fr e fun hq => all2 ?_ ?_
        · rw [zpl_v, zxu, q]; omega
        · rw [zsb_v, zxu, zc_v, p2_v, q]; omega
  · next n k1 =>
    split at e
    next c k2 e1 =>
    cases e2 : (Nat.beq o 4 && zcert s.2.2.1 c x) with
    | false => rw [e2] at e; cases e
    | true =>
      rw [e2] at e
      obtain ⟨h1, h2⟩ := andB e2
      have h1 := beqN h1
      subst h1
      have h2 := zcert_of B.1 h2
      obtain ⟨m, q⟩ := fshr (tag := tag) (y := zv ρ y) rx.1 rx.2
      have p := m_shrN (x := zv ρ x) m h2 (Int.le_refl _)
      exact fr e fun hq => all2 (by rw [zxu, q]; exact p.1) (by rw [zsb_v, zxu, (show _ = zv ρ x from hq _ mx), q]; omega)
  · next m k1 =>
    split at e
    next t k2 e1 =>
    split at e
    next cs k3 e2 =>
    cases e3 : (Nat.beq o 1 && (zeq x (zsm (p2 m) t) && zcerts s.2.2.1 cs [t, y, zsb (zc (p2 m - 1)) y, zsb (zc (thi tag)) (zadd x y)])) with
    | false => rw [e3] at e; cases e
    | true =>
      rw [e3] at e
      cases e
      obtain ⟨h1, h2⟩ := andB e3
      obtain ⟨h2, h3⟩ := andB h2
      have h1 := beqN h1
      subst h1
      have hx : zv ρ x = 2 ^ m * zv ρ t := by rw [zeq_of h2, zsm_v, p2_v]
      have z := zcerts_of B.1 h3
      have z1 := z t List.mem_cons_self
      have z2 := z y (List.mem_cons_of_mem _ List.mem_cons_self)
      have z3 := z _ (List.mem_cons_of_mem _ (List.mem_cons_of_mem _ List.mem_cons_self))
      have z4 := z _ (List.mem_cons_of_mem _ (List.mem_cons_of_mem _ (List.mem_cons_of_mem _ List.mem_cons_self)))
      rw [zsb_v, zc_v, p2_v] at z3
      rw [zsb_v, zc_v, zadd_v, hx] at z4
      refine zpush_of B ?_
      rw [zadd_v, hx]
      exact (forS z1 z2 (by omega) (by omega)).symm
  · next n m k1 =>
    split at e
    next c k2 e1 =>
    cases e2 : (Nat.beq o 0 && (zeq y (zc (p2 m - 1)) && zcert s.2.2.1 c x)) with
    | false => rw [e2] at e; cases e
    | true =>
      rw [e2] at e
      obtain ⟨h1, h2⟩ := andB e2
      obtain ⟨h2, h3⟩ := andB h2
      have h1 := beqN h1
      subst h1
      have hy : zv ρ y = 2 ^ m - 1 := by rw [zeq_of h2, zc_v, p2_v]
      have hx := zcert_of B.1 h3
      have q : fbt tag 0 (zv ρ x) (zv ρ y) = zv ρ x % 2 ^ m := by rw [hy]; exact fandM hx rx.2
      have hp : (0 : Int) < 2 ^ m := Int.pow_pos (by decide)
      have w1 := Int.emod_nonneg (zv ρ x) (Int.ne_of_gt hp)
      have w2 := Int.emod_lt_of_pos (zv ρ x) hp
      have w3 := Int.emod_add_mul_ediv (zv ρ x) (2 ^ m)
      replace e : (match zfresh lo s rest tag n (zsb x (zsm (p2 m) (zx n))) [zsb x (zsm (p2 m) (zx n)), zsb (zc (p2 m - 1)) (zsb x (zsm (p2 m) (zx n)))] [] with
        | some s' => some (s', k2)
        | none => none) = some (s', k') := e
      split at e
      · next s1 e4 =>
        cases e
        refine zfresh_of B hr e4 _ (zv ρ x / 2 ^ m) fun hq => ?_
        have g1 : zv (zup ρ n (zv ρ x / 2 ^ m)) (zsb x (zsm (p2 m) (zx n))) = zv ρ x % 2 ^ m := by
          rw [zsb_v, zsm_v, zxu, (show _ = zv ρ x from hq _ mx), p2_v]; omega
        refine ⟨by rw [g1, q], all2 (by rw [g1]; exact w1) (by rw [zsb_v, zc_v, g1, p2_v]; omega), noD⟩
      · cases e
  · cases e
end VC
/-- one number into another: 0 the other sign, 1 long into int, 2 into 16 bits, 3 into a byte -/
def fun1 (tag o : Nat) (x : Int) : Int := match o with
  | 0 => twr tag (-x)
  | 1 => wrI x
  | 2 => x % 65536
  | _ => x
def zun (o : Nat) (x : ZT) : ZT := match o with
  | 0 => zsm (-1) x
  | _ => x
def xUn (lo tag o : Nat) (s : ZSt) (x : ZT) (rest : ZSs) (k : List Nat) : Option (ZSt × List Nat) := match k with
  | 0 :: k => (match o with
    | 0 => (match zrng s.2.2.1 tag (zsm (-1) x) k with
      | some k => some (zpush s rest tag (zsm (-1) x), k)
      | none => none)
    | 1 => (match zrng s.2.2.1 0 x k with
      | some k => some (zpush s rest tag x, k)
      | none => none)
    | 2 => (match zwi s.2.2.1 0 65535 x k with
      | some k => some (zpush s rest tag x, k)
      | none => none)
    | _ => some (zpush s rest tag x, k))
  | 1 :: n :: k => (match zfresh lo s rest tag n (zx n) [] [] with
    | some s' => some (s', k)
    | none => none)
  | 2 :: n :: k => (match zfresh lo s rest tag n (zx n) (match o with
      | 0 => rngF tag (zx n)
      | 1 => rngF 0 (zx n)
      | 2 => [zx n, zsb (zc 65535) (zx n)]
      | _ => []) [] with
    | some s' => some (s', k)
    | none => none)
  | _ => none
section VD
variable {G : ZG} {lo tag : Nat} {ρ : Nat → Int} {h : MH} {s s' : ZSt} {rest : ZSs} {x y : ZT} {k k' : List Nat}
theorem xUn_of {o tx : Nat} (B : Kn G ρ h s.2.2) (hS : s.2.1 = (tx, x) :: rest) (e : xUn lo tag o s x rest k = some (s', k')) : VOk G lo ρ h s s' rest tag (fun1 tag o (zv ρ x)) := by
  have hr : ∀ q ∈ rest, q ∈ s.2.1 := fun q hq => by rw [hS]; exact List.mem_cons_of_mem _ hq
  have fr : ∀ {n : Nat} {fs : List ZT} {k1 : List Nat}, (match zfresh lo s rest tag n (zx n) fs [] with
      | some s' => some (s', k1)
      | none => none) = some (s', k') → (∀ f ∈ fs, 0 ≤ zv (zup ρ n (fun1 tag o (zv ρ x))) f) → VOk G lo ρ h s s' rest tag (fun1 tag o (zv ρ x)) := fun {n fs k1} e q => by
    split at e
    · next s1 e1 =>
      cases e
      exact zfresh_of B hr e1 _ (fun1 tag o (zv ρ x)) fun hq => ⟨zxu _ _ _, q, noD⟩
    · cases e
  unfold xUn at e
  split at e
  · next k1 =>
    match o, e with
    | 0, e =>
      replace e : (match zrng s.2.2.1 tag (zsm (-1) x) k1 with
        | some k => some (zpush s rest tag (zsm (-1) x), k)
        | none => none) = some (s', k') := e
      split at e
      · next k2 e1 =>
        cases e
        have r := zrng_of B.1 e1
        have v : zv ρ (zsm (-1) x) = -zv ρ x := by rw [zsm_v]; omega
        rw [v] at r
        exact zpush_of B (by rw [v]; exact (twr_id r.1 r.2).symm)
      · cases e
    | 1, e =>
      replace e : (match zrng s.2.2.1 0 x k1 with
        | some k => some (zpush s rest tag x, k)
        | none => none) = some (s', k') := e
      split at e
      · next k2 e1 =>
        cases e
        have r := zrng_of B.1 e1
        exact zpush_of B (wrI_id r).symm
      · cases e
    | 2, e =>
      replace e : (match zwi s.2.2.1 0 65535 x k1 with
        | some k => some (zpush s rest tag x, k)
        | none => none) = some (s', k') := e
      split at e
      · next k2 e1 =>
        cases e
        have r := zwi_of B.1 e1
        refine zpush_of B ?_
        show zv ρ x = zv ρ x % 65536
        have r1 : (0 : Int) ≤ zv ρ x := r.1
        have r2 : zv ρ x ≤ 65535 := r.2
        omega
      · cases e
    | o + 3, e =>
      cases e
      exact zpush_of B rfl
  · exact fr e noF
  · next n k1 =>
    refine fr e ?_
    match o with
    | 0 => exact rngF_of (by rw [zxu]; exact (twr_rng _ _).1) (by rw [zxu]; exact (twr_rng _ _).2)
    | 1 => exact rngF_of (tag := 0) (by rw [zxu]; exact (wrI_rng _).1) (by rw [zxu]; exact (wrI_rng _).2)
    | 2 =>
      refine all2 ?_ ?_
      · rw [zxu]; show 0 ≤ zv ρ x % 65536; omega
      · rw [zsb_v, zxu, zc_v]; show 0 ≤ 65535 - zv ρ x % 65536; omega
    | o + 3 => exact noF
  · cases e
/-- 0 the lesser, 1 the greater -/
def fmm (o : Nat) (x y : Int) : Int := match o with
  | 0 => iMin x y
  | _ => iMax x y
def zmm (o : Nat) (x y : ZT) : ZT := match o with
  | 0 => zsb y x
  | _ => zsb x y
def xMm (lo tag o : Nat) (s : ZSt) (x y : ZT) (rest : ZSs) (k : List Nat) : Option (ZSt × List Nat) := match k with
  | 0 :: k => (match rdC k with
    | (c, k) => bif zcert s.2.2.1 c (zmm o x y) then some (zpush s rest tag x, k) else none)
  | 1 :: k => (match rdC k with
    | (c, k) => bif zcert s.2.2.1 c (zmm o y x) then some (zpush s rest tag y, k) else none)
  | 2 :: n :: k => (match zfresh lo s rest tag n (zx n) [zmm o (zx n) x, zmm o (zx n) y] [[zmm o x (zx n), zmm o y (zx n)]] with
    | some s' => some (s', k)
    | none => none)
  | _ => none
theorem fmm_of (o : Nat) (ρ : Nat → Int) (x y : ZT) : 0 ≤ zv ρ (zmm o x y) → fmm o (zv ρ x) (zv ρ y) = zv ρ x ∧ fmm o (zv ρ y) (zv ρ x) = zv ρ x := fun p => by
  match o, p with
  | 0, p =>
    replace p : 0 ≤ zv ρ (zsb y x) := p
    rw [zsb_v] at p
    refine ⟨?_, ?_⟩
    · show (if zv ρ y < zv ρ x then zv ρ y else zv ρ x) = _
      rw [if_neg (by omega)]
    · show (if zv ρ x < zv ρ y then zv ρ x else zv ρ y) = _
      split <;> omega
  | o + 1, p =>
    replace p : 0 ≤ zv ρ (zsb x y) := p
    rw [zsb_v] at p
    refine ⟨?_, ?_⟩
    · show (if zv ρ x < zv ρ y then zv ρ y else zv ρ x) = _
      rw [if_neg (by omega)]
    · show (if zv ρ y < zv ρ x then zv ρ x else zv ρ y) = _
      split <;> omega
theorem xMm_of {o tx ty : Nat} (B : Kn G ρ h s.2.2) (hS : s.2.1 = (ty, y) :: (tx, x) :: rest) (e : xMm lo tag o s x y rest k = some (s', k')) : VOk G lo ρ h s s' rest tag (fmm o (zv ρ x) (zv ρ y)) := by
  have hr : ∀ q ∈ rest, q ∈ s.2.1 := fun q hq => by rw [hS]; exact List.mem_cons_of_mem _ (List.mem_cons_of_mem _ hq)
  have mx : (tx, x) ∈ s.2.1 := by rw [hS]; exact List.mem_cons_of_mem _ List.mem_cons_self
  have my : (ty, y) ∈ s.2.1 := by rw [hS]; exact List.mem_cons_self
  unfold xMm at e
  split at e
  · split at e
    next c k1 e1 =>
    cases e2 : zcert s.2.2.1 c (zmm o x y) with
    | false => rw [e2] at e; cases e
    | true =>
      rw [e2] at e
      cases e
      exact zpush_of B (fmm_of o ρ x y (zcert_of B.1 e2)).1.symm
  · split at e
    next c k1 e1 =>
    cases e2 : zcert s.2.2.1 c (zmm o y x) with
    | false => rw [e2] at e; cases e
    | true =>
      rw [e2] at e
      cases e
      exact zpush_of B (fmm_of o ρ y x (zcert_of B.1 e2)).2.symm
  · next n k1 =>
    split at e
    · next s1 e1 =>
      cases e
      refine zfresh_of B hr e1 _ (fmm o (zv ρ x) (zv ρ y)) fun hq => ⟨zxu _ _ _, ?_, ?_⟩
      · match o with
        | 0 =>
          refine all2 ?_ ?_
          · show 0 ≤ zv _ (zsb x (zx n))
            rw [zsb_v, zxu, (show _ = zv ρ x from hq _ mx)]
            show 0 ≤ zv ρ x - (if zv ρ y < zv ρ x then zv ρ y else zv ρ x)
            split <;> omega
          · show 0 ≤ zv _ (zsb y (zx n))
            rw [zsb_v, zxu, (show _ = zv ρ y from hq _ my)]
            show 0 ≤ zv ρ y - (if zv ρ y < zv ρ x then zv ρ y else zv ρ x)
            split <;> omega
        | o + 1 =>
          refine all2 ?_ ?_
          · show 0 ≤ zv _ (zsb (zx n) x)
            rw [zsb_v, zxu, (show _ = zv ρ x from hq _ mx)]
            show 0 ≤ (if zv ρ x < zv ρ y then zv ρ y else zv ρ x) - zv ρ x
            split <;> omega
          · show 0 ≤ zv _ (zsb (zx n) y)
            rw [zsb_v, zxu, (show _ = zv ρ y from hq _ my)]
            show 0 ≤ (if zv ρ x < zv ρ y then zv ρ y else zv ρ x) - zv ρ y
            split <;> omega
      · refine List.forall_mem_cons.mpr ⟨?_, noD⟩
        match o with
        | 0 =>
          by_cases w : zv ρ y < zv ρ x
          · refine ⟨_, List.mem_cons_of_mem _ List.mem_cons_self, ?_⟩
            show 0 ≤ zv _ (zsb (zx n) y)
            rw [zsb_v, zxu, (show _ = zv ρ y from hq _ my)]
            show 0 ≤ (if zv ρ y < zv ρ x then zv ρ y else zv ρ x) - zv ρ y
            rw [if_pos w]
            omega
          · refine ⟨_, List.mem_cons_self, ?_⟩
            show 0 ≤ zv _ (zsb (zx n) x)
            rw [zsb_v, zxu, (show _ = zv ρ x from hq _ mx)]
            show 0 ≤ (if zv ρ y < zv ρ x then zv ρ y else zv ρ x) - zv ρ x
            rw [if_neg w]
            omega
        | o + 1 =>
          by_cases w : zv ρ x < zv ρ y
          · refine ⟨_, List.mem_cons_of_mem _ List.mem_cons_self, ?_⟩
            show 0 ≤ zv _ (zsb y (zx n))
            rw [zsb_v, zxu, (show _ = zv ρ y from hq _ my)]
            show 0 ≤ zv ρ y - (if zv ρ x < zv ρ y then zv ρ y else zv ρ x)
            rw [if_pos w]
            omega
          · refine ⟨_, List.mem_cons_self, ?_⟩
            show 0 ≤ zv _ (zsb x (zx n))
            rw [zsb_v, zxu, (show _ = zv ρ x from hq _ mx)]
            show 0 ≤ zv ρ x - (if zv ρ x < zv ρ y then zv ρ y else zv ρ x)
            rw [if_neg w]
            omega
    · cases e
  · cases e
end VD
