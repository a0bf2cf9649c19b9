/-! the run of a script -/
/-- to a place: w tells whether its measure must fall -/
def zjmp (x : ZX) (s : ZSt) (k : List Nat) : Option (List Nat) := match k with
  | m :: k => (match rdσ m k with
    | (σ, k) => bif σ.all (fun q => Nat.ble x.2.1 q.1) && (jL σ s.1 x.2.2.1.1 && jS σ x.2.2.1.2.1 s.2.1) then (match jK σ s.2.2 x.2.2.1.2.2 k with
      | some k => (match x.2.2.2.1 with
        | none => some k
        | some (t, hd) => (match rdCs 2 k with
          | (cs, k) => bif zcerts s.2.2.1 cs [zS σ t, zpl (zsb hd (zS σ t)) (-1)] then some k else none))
      | none => none) else none)
  | [] => none
/-- a place is read -/
def rdLs : Nat → List Nat → ZLs × List Nat
  | 0, k => ([], k)
  | n + 1, a :: t :: k => match rdT k with
    | (x, k) => (match rdLs n k with
      | (l, k) => ((a, t, x) :: l, k))
  | _ + 1, k => ([], k)
def rdSs : Nat → List Nat → ZSs × List Nat
  | 0, k => ([], k)
  | n + 1, t :: k => match rdT k with
    | (x, k) => (match rdSs n k with
      | (l, k) => ((t, x) :: l, k))
  | _ + 1, [] => ([], [])
def rdDs : Nat → List Nat → List (List ZT) × List Nat
  | 0, k => ([], k)
  | n + 1, m :: k => match rdTs m k with
    | (d, k) => (match rdDs n k with
      | (l, k) => (d :: l, k))
  | _ + 1, [] => ([], [])
def rdAs : Nat → List Nat → List ZA × List Nat
  | 0, k => ([], k)
  | n + 1, k => match rdT k with
    | (r, k) => (match rdT k with
      | (i, k) => (match rdT k with
        | (v, k) => (match rdAs n k with
          | (l, k) => ((r, i, v) :: l, k))))
def rdVs (tb : List Nat) : Nat → List Nat → Option (List ZC × List Nat)
  | 0, k => some ([], k)
  | n + 1, k => match rdCl tb k with
    | some (c, k) => (match rdVs tb n k with
      | some (l, k) => some (c :: l, k)
      | none => none)
    | none => none
def rdSt (tb : List Nat) (k : List Nat) : Option (ZSt × List Nat) := match k with
  | a :: b :: c :: d :: e :: f :: k => (match rdLs a k with
    | (L, k) => (match rdSs b k with
      | (S, k) => (match rdTs c k with
        | (F, k) => (match rdDs d k with
          | (D, k) => (match rdAs e k with
            | (A, k) => (match rdVs tb f k with
              | some (V, k) => some ((L, S, (F, D, A, V)), k)
              | none => none))))))
  | _ => none
def zblw (b : Nat) (t : ZT) : Bool := !(zoc (fun v => Nat.ble b v) t)
def zfrS (lo : Nat) (s : ZSt) (v : Nat) : Bool := Nat.ble lo v && !(zocL (Nat.beq v) s.1 || zocS (Nat.beq v) s.2.1)
/-- a truth, a sign, as they are answered -/
def zrb (F : List ZT) (op a : Nat) (S : ZSs) (k : List Nat) : Option (List Nat) := bif Nat.beq op 61 then (match S, a with
  | v :: _, 4 => zwi F 0 1 v.2 k
  | v :: _, 5 => zwi F 0 65535 v.2 k
  | _, 0 => some k
  | _, _ => none) else some k
/-- an answer: it keeps the contract -/
def zdr (m i : Nat) : Bool := match xfind m i XT with
  | some (98, _, _) => true
  | _ => false
def zret (c : ZCt) (m i : Nat) (mi : MI) (s : ZSt) (k : List Nat) : Option (List Nat) := match rdNs (kO c).length k with
  | (es, k) => (match (match mi.2.1, s.2.1, kRs c with
    | 63, [], none => some []
    | 61, [v], some q => bif Nat.beq v.1 0 && Nat.beq q.1 0 then some [(q.2, v.2)] else none
    | 62, [v], some q => bif Nat.beq v.1 1 && Nat.beq q.1 1 then some [(q.2, v.2)] else none
    | 64, [v], some q => bif Nat.beq v.1 2 && Nat.beq q.1 2 then some [(q.2, v.2)] else none
    | 99, [v], some q => bif zdr m i && (Nat.beq v.1 3 && Nat.beq q.1 3) then some [(q.2, v.2)] else none
    | _, _, _ => none) with
    | some σ0 => (match zrb s.2.2.1 mi.2.1 mi.2.2.2.1 s.2.1 k with
      | some k =>
        bif zent (σ0 ++ zen s.2.2.2.2.1 (kO c) es) s.2.2.2.2.1 (kO c) es then (match rdCs (kEF c).length k with
          | (cs, k) => bif zcerts s.2.2.1 cs ((kEF c).map (zS (σ0 ++ zen s.2.2.2.2.1 (kO c) es))) then (match jD (σ0 ++ zen s.2.2.2.2.1 (kO c) es) s.2.2 (kED c) k with
            | some k => (match rdNs (kEV c).length k with
              | (vs, k) => (match rdNs (kLE c).length k with
                | (ls, k) => bif zreqV s.2.2.2.2.2 (kEV c) vs && jV (σ0 ++ zen s.2.2.2.2.1 (kO c) es) s.2.2.2.2.2 ((kLE c).map fun b => (0, b)) ls then some k else none))
            | none => none) else none) else none
      | none => none)
    | none => none)
def zdrp : Nat → List MI → List MI
  | _, [] => []
  | n, x :: r => bif Nat.beq n 0 then x :: r else zdrp (n - 1) r
theorem zdrp_of : ∀ {n : Nat} {l : List MI}, zdrp n l = l.drop n
  | n, [] => List.drop_nil.symm
  | 0, x :: r => rfl
  | n + 1, x :: r => zdrp_of (n := n) (l := r)
def zall (f : Nat × ZSt → List Nat → Option (List Nat)) : List (Nat × ZSt) → List Nat → Option (List Nat)
  | [], k => some k
  | q :: r, k => match f q k with
    | some k => zall f r k
    | none => none
/-- what an instruction takes of the room for cells and elements: a call what its contract says, an array what the script says -/
def zbud (CT : Nat → Option ZCt) (m i op : Nat) (k : List Nat) : Nat × Nat := bif Nat.beq op 67 || Nat.beq op 68 then zbc CT k else bif Nat.beq op 99 then zbx CT m i k else (0, 0)
/-- the run of a script -/
def zrun (G : ZG) (T : ZTab) (M : List ZR) (CT : Nat → Option ZCt) (m : Nat) (c : ZCt) (P : MP) : Nat → Nat × Nat → Nat → List ZX → Nat → List MI → ZSt → List Nat → Option (List Nat)
  | 0, _, _, _, _, _, _, _ => none
  | _ + 1, _, _, _, _, _, _, [] => none
  | n + 1, mb, lo, cx, i, R, s, o :: k => match o with
    | 30 => (match R with
      | [] => none
      | mi :: R' => (match (bif Nat.beq mi.2.1 67 || Nat.beq mi.2.1 68 then xCall G T M CT m lo i mi.2.1 mi.2.2.2.1 s k else bif Nat.beq mi.2.1 99 then xExt G T M CT m lo n i s k else ist G T M P lo n i mi s k) with
        | some (ss, k') => bif Nat.ble (zbud CT m i mi.2.1 k).1 mb.1 && Nat.ble (zbud CT m i mi.2.1 k).2 mb.2 then zall (fun q k2 => zrun G T M CT m c P n (mb.1 - (zbud CT m i mi.2.1 k).1, mb.2 - (zbud CT m i mi.2.1 k).2) lo cx q.1 (bif Nat.beq q.1 (i + 1) then R' else zdrp q.1 P.1) q.2 k2) ss k' else none
        | none => none))
    | 31 => (match k with
      | a :: k => (match zget cx a with
        | some x => bif Nat.beq x.1 i && (Nat.ble x.2.2.2.2.1 mb.1 && Nat.ble x.2.2.2.2.2 mb.2) then zjmp x s k else none
        | none => none)
      | [] => none)
    | 32 => (match k with
      | b :: lo' :: k => (match rdSt (kVs c ++ kEV c) k with
        | some (lab, k) => (match rdT k with
          | (t, k) => bif Nat.ble lo b && (Nat.ble b lo' && zblw lo' t) then (match zjmp (i, b, lab, none, mb) s k with
            | some k => zrun G T M CT m c P n mb lo' ((i, b, lab, some (t, t), mb) :: cx) i R lab k
            | none => none) else none)
        | none => none)
      | _ => none)
    | 33 => (match k with
      | j :: b :: lo' :: u :: v :: k => (match rdSt (kVs c ++ kEV c) k with
        | some (lab, k) => bif Nat.ble lo b && Nat.ble b lo' then (match zrun G T M CT m c P n (u, v) lo' cx j (zdrp j P.1) lab k with
            | some k => zrun G T M CT m c P n mb lo' ((j, b, lab, none, (u, v)) :: cx) i R s k
            | none => none) else none
        | none => none)
      | _ => none)
    | 34 => (match R with
      | [] => none
      | mi :: _ => zret c m i mi s k)
    | 37 => (match R with
      | [] => none
      | mi :: R' => (match xSp lo i mi s k with
        | some (ss, k) => zall (fun q k => zrun G T M CT m c P n mb lo cx q.1 R' q.2 k) ss k
        | none => none))
    | 35 => (match k with
      | a :: k => (match zlk s.1 a with
        | some v => bif Nat.ble v.1 1 then zrun G T M CT m c P n mb lo cx i R (s.1, s.2.1, (rngF v.1 v.2 ++ s.2.2.1, s.2.2.2)) k else none
        | none => none)
      | [] => none)
    | 36 => (match s.2.1 with
      | v :: _ => bif Nat.ble v.1 1 then zrun G T M CT m c P n mb lo cx i R (s.1, s.2.1, (rngF v.1 v.2 ++ s.2.2.1, s.2.2.2)) k else none
      | [] => none)
    | 38 => (match s.2.1 with
      | v :: S => (match rdT k with
        | (t, k) => (match rdCs 2 k with
          | (cs, k) => bif zcerts s.2.2.1 cs [zsb v.2 t, zsb t v.2] then zrun G T M CT m c P n mb lo cx i R (s.1, (v.1, t) :: S, s.2.2) k else none))
      | [] => none)
    | 39 => (match xGh G T M lo n s k with
      | some (s', k) => zrun G T M CT m c P n mb lo cx i R s' k
      | none => none)
    | 40 => (match gAddI G (kVs c ++ kEV c) lo n s.2.2 k with
      | some (K, k) => zrun G T M CT m c P n mb lo cx i R (s.1, s.2.1, K) k
      | none => none)
    | 41 => (match xRec G T M s k with
      | some (s', k) => zrun G T M CT m c P n mb lo cx i R s' k
      | none => none)
    | 21 => (match rdT k with
      | (t, k) => (match zrun G T M CT m c P n mb lo cx i R (s.1, s.2.1, (t :: s.2.2.1, s.2.2.2)) k with
        | some k => zrun G T M CT m c P n mb lo cx i R (s.1, s.2.1, (zpl (zsm (-1) t) (-1) :: s.2.2.1, s.2.2.2)) k
        | none => none))
    | 22 => (match rdC k with
      | (d, k) => bif zcert s.2.2.1 d (zc (-1)) then some k else none)
    | 23 => gNone s.2.2 k
    | 10 => (match gAdd G (kVs c ++ kEV c) lo n s.2.2 k with
      | some (K, k) => zrun G T M CT m c P n mb lo cx i R (s.1, s.2.1, K) k
      | none => none)
    | o => (match gh0 G (zfrS lo s) o s.2.2 k with
      | some (K, k) => zrun G T M CT m c P n mb lo cx i R (s.1, s.2.1, K) k
      | none => none)
section KB
variable {G : ZG} {T : ZTab} {M : List ZR} {CT : Nat → Option ZCt} {m : Nat} {c : ZCt} {Q : MO → MH → Prop} {h0 : MH}
def msOk (ρ ρ0 : Nat → Int) (q : Option (ZT × ZT)) : Prop := match q with
  | none => True
  | some p => 0 ≤ zv ρ p.1 ∧ zv ρ p.1 < zv ρ0 p.2
def hdOk (lo : Nat) (q : Option (ZT × ZT)) : Prop := match q with
  | none => True
  | some p => zblw lo p.2 = true
/-- from the places of the list it goes well -/
def CxOk (G : ZG) (T : ZTab) (M : List ZR) (m : Nat) (Q : MO → MH → Prop) (h0 : MH) (lo : Nat) (cx : List ZX) (ρ0 : Nat → Int) : Prop := ∀ x ∈ cx, x.2.1 ≤ lo ∧ hdOk lo x.2.2.2.1 ∧ ∀ (ρ : Nat → Int) (h : MH), (∀ v, v < x.2.1 → ρ v = ρ0 v) → Inv G T M h0 ρ h x.2.2.1 → msOk ρ ρ0 x.2.2.2.1 → MW (kT m) Q x.2.2.2.2.1 x.2.2.2.2.2 (pcA (pgT m) x.1) (zL ρ x.2.2.1.1) (zSk ρ x.2.2.1.2.1) h
theorem zblw_of {b : Nat} {t : ZT} (e : zblw b t = true) {ρ ρ' : Nat → Int} (h : ∀ v, v < b → ρ' v = ρ v) : zv ρ' t = zv ρ t := zoc_no (notB e) fun v hv => h v (by
  refine Nat.lt_of_not_le fun q => ?_
  rw [Nat.ble_eq_true_of_le q] at hv
  cases hv)
theorem CxOk.to {lo lo' : Nat} {cx : List ZX} {ρ0 ρ1 : Nat → Int} (C : CxOk G T M m Q h0 lo cx ρ0) (hl : lo ≤ lo') (h : ∀ v, v < lo → ρ1 v = ρ0 v) : CxOk G T M m Q h0 lo' cx ρ1 := fun x hx => by
  obtain ⟨c1, c2, c3⟩ := C x hx
  refine ⟨Nat.le_trans c1 hl, ?_, fun ρ h' a I ms => c3 ρ h' (fun v hv => (a v hv).trans (h v (by omega))) I ?_⟩
  · generalize x.2.2.2.1 = q at *
    cases q with
    | none => trivial
    | some p =>
      have c2 : zblw lo p.2 = true := c2
      show zblw lo' p.2 = true
      unfold zblw at c2 ⊢
      have c2 := notB c2
      have : zoc (fun v => Nat.ble lo' v) p.2 = false := by
        cases w : zoc (fun v => Nat.ble lo' v) p.2 with
        | false => rfl
        | true =>
          have : ∀ l : List (Nat × Int), zanyV (fun v => Nat.ble lo v) l = false → zanyV (fun v => Nat.ble lo' v) l = false := by
            intro l
            induction l with
            | nil => exact fun _ => rfl
            | cons p r ih =>
              intro z
              obtain ⟨z1, z2⟩ := orF z
              show (Nat.ble lo' p.1 || zanyV _ r) = false
              rw [ih z2, Bool.or_false]
              cases u : Nat.ble lo' p.1 with
              | false => rfl
              | true =>
                replace z1 : Nat.ble lo p.1 = false := z1
                rw [Nat.ble_eq_true_of_le (Nat.le_trans hl (bleN u))] at z1
                cases z1
          rw [show zoc (fun v => Nat.ble lo' v) p.2 = false from this _ c2] at w
          cases w
      rw [this]
      rfl
  · generalize x.2.2.2.1 = q at *
    cases q with
    | none => trivial
    | some p =>
      have c2 : zblw lo p.2 = true := c2
      have ms : 0 ≤ zv ρ p.1 ∧ zv ρ p.1 < zv ρ1 p.2 := ms
      rw [zblw_of c2 h] at ms
      exact ms
theorem zjmp_of {mc ms : Nat} {x : ZX} {s : ZSt} {k k' : List Nat} {ρ : Nat → Int} {h : MH} {P : MP} {K : mK} (e : zjmp x s k = some k') (I : Inv G T M h0 ρ h s) (go : ∀ ρ', (∀ v, v < x.2.1 → ρ' v = ρ v) → Inv G T M h0 ρ' h x.2.2.1 → msOk ρ' ρ x.2.2.2.1 → MW K Q mc ms (pcA P x.1) (zL ρ' x.2.2.1.1) (zSk ρ' x.2.2.1.2.1) h) : MW K Q mc ms (pcA P x.1) (zL ρ s.1) (zSk ρ s.2.1) h := by
  unfold zjmp at e
  split at e
  · next m' k1 =>
    split at e
    next σ k2 e1 =>
    cases e2 : (σ.all (fun q => Nat.ble x.2.1 q.1) && (jL σ s.1 x.2.2.1.1 && jS σ x.2.2.1.2.1 s.2.1)) with
    | false => rw [e2] at e; cases e
    | true =>
      rw [e2, cond_true] at e
      obtain ⟨a1, a2⟩ := andB e2
      obtain ⟨a2, a3⟩ := andB a2
      split at e
      · next k3 e3 =>
        have hv : ∀ v, v < x.2.1 → zσ σ ρ v = ρ v := fun v hv => zσ_no (by
          cases w : (σ.any fun q => Nat.beq q.1 v) with
          | false => rfl
          | true =>
            obtain ⟨q, mq, hq⟩ := List.any_eq_true.mp w
            have := bleN (List.all_eq_true.mp a1 q mq)
            have := beqN hq
            omega)
        have mso : msOk (zσ σ ρ) ρ x.2.2.2.1 := by
          generalize x.2.2.2.1 = q at *
          cases q with
          | none => trivial
          | some p =>
            obtain ⟨t, hd⟩ := p
            replace e : (match rdCs 2 k3 with
              | (cs, k) => bif zcerts s.2.2.1 cs [zS σ t, zpl (zsb hd (zS σ t)) (-1)] then some k else none) = some k' := e
            split at e
            next cs k4 e4 =>
            cases e5 : zcerts s.2.2.1 cs [zS σ t, zpl (zsb hd (zS σ t)) (-1)] with
            | false => rw [e5] at e; cases e
            | true =>
              have q := zcerts_of I.1.1 e5
              have q1 := q _ List.mem_cons_self
              have q2 := q _ (List.mem_cons_of_mem _ List.mem_cons_self)
              rw [zS_v] at q1
              rw [zpl_v, zsb_v, zS_v] at q2
              exact ⟨q1, by show zv (zσ σ ρ) t < zv ρ hd; omega⟩
        have w := go (zσ σ ρ) hv ⟨jK_of I.1 e3, I.2⟩ mso
        rw [jS_of a3] at w
        exact m_sub _ (jL_of a2) w
      · cases e
  · cases e
end KB
