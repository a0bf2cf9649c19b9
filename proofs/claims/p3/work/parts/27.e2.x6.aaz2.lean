/-! scripts with labels that are proved apart: command 44 takes one -/
def zAeq (a b : ZA) : Bool := zeq a.1 b.1 && (zeq a.2.1 b.2.1 && zeq a.2.2 b.2.2)
theorem zAeq_of {a b : ZA} (h : zAeq a b = true) : a = b := by
  obtain ⟨h1, h2⟩ := andB h
  obtain ⟨h2, h3⟩ := andB h2
  exact Prod.ext (zeq_of h1) (Prod.ext (zeq_of h2) (zeq_of h3))
def zCeq (a b : ZC) : Bool := Nat.beq a.1 b.1 && zBeq a.2 b.2
theorem zCeq_of {a b : ZC} (h : zCeq a b = true) : a = b := by
  obtain ⟨h1, h2⟩ := andB h
  exact Prod.ext (beqN h1) (zBeq_of h2)
def zLq (a b : Nat × Nat × ZT) : Bool := Nat.beq a.1 b.1 && (Nat.beq a.2.1 b.2.1 && zeq a.2.2 b.2.2)
theorem zLq_of {a b : Nat × Nat × ZT} (h : zLq a b = true) : a = b := by
  obtain ⟨h1, h2⟩ := andB h
  obtain ⟨h2, h3⟩ := andB h2
  exact Prod.ext (beqN h1) (Prod.ext (beqN h2) (zeq_of h3))
def zSq (a b : Nat × ZT) : Bool := Nat.beq a.1 b.1 && zeq a.2 b.2
theorem zSq_of {a b : Nat × ZT} (h : zSq a b = true) : a = b := by
  obtain ⟨h1, h2⟩ := andB h
  exact Prod.ext (beqN h1) (zeq_of h2)
def zSteq (a b : ZSt) : Bool := zall2 zLq a.1 b.1 && (zall2 zSq a.2.1 b.2.1 && (zall2 zeq a.2.2.1 b.2.2.1 && (zall2 (zall2 zeq) a.2.2.2.1 b.2.2.2.1 && (zall2 zAeq a.2.2.2.2.1 b.2.2.2.2.1 && zall2 zCeq a.2.2.2.2.2 b.2.2.2.2.2))))
theorem zSteq_of {a b : ZSt} (h : zSteq a b = true) : a = b := by
  obtain ⟨h1, h⟩ := andB h
  obtain ⟨h2, h⟩ := andB h
  obtain ⟨h3, h⟩ := andB h
  obtain ⟨h4, h⟩ := andB h
  obtain ⟨h5, h6⟩ := andB h
  exact Prod.ext (zall2_of zLq_of h1) (Prod.ext (zall2_of zSq_of h2) (Prod.ext (zall2_of zeq_of h3) (Prod.ext (zall2_of (fun q => zall2_of zeq_of q) h4) (Prod.ext (zall2_of zAeq_of h5) (zall2_of zCeq_of h6)))))
def zMq (a b : Option (ZT × ZT)) : Bool := match a, b with
  | none, none => true
  | some p, some q => zeq p.1 q.1 && zeq p.2 q.2
  | _, _ => false
theorem zMq_of {a b : Option (ZT × ZT)} (h : zMq a b = true) : a = b := by
  match a, b, h with
  | none, none, _ => rfl
  | some p, some q, h =>
    obtain ⟨h1, h2⟩ := andB h
    rw [show p = q from Prod.ext (zeq_of h1) (zeq_of h2)]
def zXeq (a b : ZX) : Bool := Nat.beq a.1 b.1 && (Nat.beq a.2.1 b.2.1 && (zSteq a.2.2.1 b.2.2.1 && (zMq a.2.2.2.1 b.2.2.2.1 && (Nat.beq a.2.2.2.2.1 b.2.2.2.2.1 && Nat.beq a.2.2.2.2.2 b.2.2.2.2.2))))
theorem zXeq_of {a b : ZX} (h : zXeq a b = true) : a = b := by
  obtain ⟨h1, h⟩ := andB h
  obtain ⟨h2, h⟩ := andB h
  obtain ⟨h3, h⟩ := andB h
  obtain ⟨h4, h⟩ := andB h
  obtain ⟨h5, h6⟩ := andB h
  exact Prod.ext (beqN h1) (Prod.ext (beqN h2) (Prod.ext (zSteq_of h3) (Prod.ext (zMq_of h4) (Prod.ext (beqN h5) (beqN h6)))))
/-- a label that is proved apart: row, first number of its own names, first number behind them, room, the labels around it, what is known there -/
abbrev ZXE : Type := Nat × Nat × Nat × Nat × Nat × List ZX × ZSt
def zrunE (EL : List ZXE) (G : ZG) (T : ZTab) (M : List ZR) (CT : Nat → Option ZCt) (m : Nat) (c : ZCt) (P : MP) : Nat → Nat × Nat → Nat → List ZX → Nat → List MI → ZSt → List Nat → Option (List Nat)
  | 0, _, _, _, _, _, _, _ => none
  | _ + 1, _, _, _, _, _, _, [] => none
  | n + 1, mb, lo, cx, i, R, s, o :: k => match o with
    | 30 => (match R with
      | [] => none
      | mi :: R' => (match (bif Nat.beq mi.2.1 67 || Nat.beq mi.2.1 68 then xCall G T M CT m lo i mi.2.1 mi.2.2.2.1 s k else bif Nat.beq mi.2.1 99 then xExt G T M CT m lo n i s k else ist G T M P lo n i mi s k) with
        | some (ss, k') => bif Nat.ble (zbud CT m i mi.2.1 k).1 mb.1 && Nat.ble (zbud CT m i mi.2.1 k).2 mb.2 then zall (fun q k2 => zrunE EL G T M CT m c P n (mb.1 - (zbud CT m i mi.2.1 k).1, mb.2 - (zbud CT m i mi.2.1 k).2) lo cx q.1 (bif Nat.beq q.1 (i + 1) then R' else zdrp q.1 P.1) q.2 k2) ss k' else none
        | none => none))
    | 31 => (match k with
      | a :: k => (match zget cx a with
        | some x => bif Nat.beq x.1 i && (Nat.ble x.2.2.2.2.1 mb.1 && Nat.ble x.2.2.2.2.2 mb.2) then zjmp x s k else none
        | none => none)
      | [] => none)
    | 32 => (match k with
      | b :: lo' :: k => (match rdSt (kVs c ++ kEV c) k with
        | some (lab, k) => (match rdT k with
          | (t, k) => bif Nat.ble lo b && (Nat.ble b lo' && zblw lo' t) then (match zjmp (i, b, lab, none, mb) s k with
            | some k => zrunE EL G T M CT m c P n mb lo' ((i, b, lab, some (t, t), mb) :: cx) i R lab k
            | none => none) else none)
        | none => none)
      | _ => none)
    | 33 => (match k with
      | j :: b :: lo' :: u :: v :: k => (match rdSt (kVs c ++ kEV c) k with
        | some (lab, k) => bif Nat.ble lo b && Nat.ble b lo' then (match zrunE EL G T M CT m c P n (u, v) lo' cx j (zdrp j P.1) lab k with
            | some k => zrunE EL G T M CT m c P n mb lo' ((j, b, lab, none, (u, v)) :: cx) i R s k
            | none => none) else none
        | none => none)
      | _ => none)
    | 34 => (match R with
      | [] => none
      | mi :: _ => zret c m i mi s k)
    | 37 => (match R with
      | [] => none
      | mi :: R' => (match xSp lo i mi s k with
        | some (ss, k) => zall (fun q k => zrunE EL G T M CT m c P n mb lo cx q.1 R' q.2 k) ss k
        | none => none))
    | 35 => (match k with
      | a :: k => (match zlk s.1 a with
        | some v => bif Nat.ble v.1 1 then zrunE EL G T M CT m c P n mb lo cx i R (s.1, s.2.1, (rngF v.1 v.2 ++ s.2.2.1, s.2.2.2)) k else none
        | none => none)
      | [] => none)
    | 36 => (match s.2.1 with
      | v :: _ => bif Nat.ble v.1 1 then zrunE EL G T M CT m c P n mb lo cx i R (s.1, s.2.1, (rngF v.1 v.2 ++ s.2.2.1, s.2.2.2)) k else none
      | [] => none)
    | 38 => (match s.2.1 with
      | v :: S => (match rdT k with
        | (t, k) => (match rdCs 2 k with
          | (cs, k) => bif zcerts s.2.2.1 cs [zsb v.2 t, zsb t v.2] then zrunE EL G T M CT m c P n mb lo cx i R (s.1, (v.1, t) :: S, s.2.2) k else none))
      | [] => none)
    | 39 => (match xGh G T M lo n s k with
      | some (s', k) => zrunE EL G T M CT m c P n mb lo cx i R s' k
      | none => none)
    | 40 => (match gAddI G (kVs c ++ kEV c) lo n s.2.2 k with
      | some (K, k) => zrunE EL G T M CT m c P n mb lo cx i R (s.1, s.2.1, K) k
      | none => none)
    | 41 => (match xRec G T M s k with
      | some (s', k) => zrunE EL G T M CT m c P n mb lo cx i R s' k
      | none => none)
    | 21 => (match rdT k with
      | (t, k) => (match zrunE EL G T M CT m c P n mb lo cx i R (s.1, s.2.1, (t :: s.2.2.1, s.2.2.2)) k with
        | some k => zrunE EL G T M CT m c P n mb lo cx i R (s.1, s.2.1, (zpl (zsm (-1) t) (-1) :: s.2.2.1, s.2.2.2)) k
        | none => none))
    | 22 => (match rdC k with
      | (d, k) => bif zcert s.2.2.1 d (zc (-1)) then some k else none)
    | 23 => gNone s.2.2 k
    | 10 => (match gAdd G (kVs c ++ kEV c) lo n s.2.2 k with
      | some (K, k) => zrunE EL G T M CT m c P n mb lo cx i R (s.1, s.2.1, K) k
      | none => none)
    | 44 => (match k with
      | a :: k => (match zget EL a with
        | some e => bif zall2 zXeq cx e.2.2.2.2.2.1 && (Nat.ble lo e.2.1 && Nat.ble e.2.1 e.2.2.1) then zrunE EL G T M CT m c P n mb e.2.2.1 ((e.1, e.2.1, e.2.2.2.2.2.2, none, (e.2.2.2.1, e.2.2.2.2.1)) :: cx) i R s k else none
        | none => none)
      | [] => none)
    | o => (match gh0 G (zfrS lo s) o s.2.2 k with
      | some (K, k) => zrunE EL G T M CT m c P n mb lo cx i R (s.1, s.2.1, K) k
      | none => none)
/-- from the label on it goes well, if it does from those around it -/
def LOk (G : ZG) (T : ZTab) (c : ZCt) (m l0 : Nat) (ρs : Nat → Int) (h0 : MH) (e : ZXE) : Prop := ∀ (ρ : Nat → Int) (h : MH), (∀ v, v < l0 → ρ v = ρs v) → Inv G T (kMd c) h0 ρ h e.2.2.2.2.2.2 → CxOk G T (kMd c) m (Qct G T c ρs h0) h0 e.2.2.1 e.2.2.2.2.2.1 ρ → MW (kT m) (Qct G T c ρs h0) e.2.2.2.1 e.2.2.2.2.1 (pcA (pgT m) e.1) (zL ρ e.2.2.2.2.2.2.1) (zSk ρ e.2.2.2.2.2.2.2.1) h
def LbOk (G : ZG) (T : ZTab) (c : ZCt) (l0 : Nat) (e : ZXE) : Prop := ∀ (ρs : Nat → Int) (h0 : MH), LOk G T c c.1 l0 ρs h0 e
section LE
variable {G : ZG} {T : ZTab} {CT : Nat → Option ZCt} {m : Nat} {c : ZCt} {h0 : MH}
theorem zrunE_of {EL : List ZXE} (gk : GOk G) (tk : TabOk T) (hct : ∀ j c, CT j = some c → CtOk G T c) (hm : m < 821) (wf : ctWf c = true) {l0 : Nat} (hl0 : ∀ v, zmem v (cAv c) = true → v < l0) {ρs : Nat → Int} (hEL : ∀ e ∈ EL, LOk G T c m l0 ρs h0 e) : ∀ (n : Nat) {mb : Nat × Nat} {lo : Nat} {cx : List ZX} {i : Nat} {R : List MI} {s : ZSt} {k k' : List Nat}, zrunE EL G T (kMd c) CT m c (pgT m) n mb lo cx i R s k = some k' → R = (pgT m).1.drop i → l0 ≤ lo → ∀ {ρ : Nat → Int} {h : MH}, (∀ v, v < l0 → ρ v = ρs v) → Inv G T (kMd c) h0 ρ h s → CxOk G T (kMd c) m (Qct G T c ρs h0) h0 lo cx ρ → MW (kT m) (Qct G T c ρs h0) mb.1 mb.2 (pcA (pgT m) i) (zL ρ s.1) (zSk ρ s.2.1) h
  | 0, _, _, _, _, _, _, _, _, e, _, _, _, _, _, _, _ => by cases e
  | _ + 1, _, _, _, _, _, _, [], _, e, _, _, _, _, _, _, _ => by cases e
  | n + 1, mb, lo, cx, i, R, s, o :: k, k', e, hR, hlo, ρ, h, hρ, I, C => by
    have ih := @zrunE_of EL gk tk hct hm wf l0 hl0 ρs hEL n
    unfold zrunE at e
    split at e
    · split at e
      · cases e
      · next mi R' =>
        obtain ⟨hi, hR'⟩ := drop_at hR
        split at e
        · next ss k1 e1 =>
          cases wb : (Nat.ble (zbud CT m i mi.2.1 k).1 mb.1 && Nat.ble (zbud CT m i mi.2.1 k).2 mb.2) with
          | false => rw [wb] at e; cases e
          | true =>
          rw [wb, cond_true] at e
          obtain ⟨wb1, wb2⟩ := andB wb
          have wb1 := bleN wb1
          have wb2 := bleN wb2
          have kk : ∀ q ∈ ss, Go G T (kMd c) (pgT m) (kT m) (Qct G T c ρs h0) (mb.1 - (zbud CT m i mi.2.1 k).1) (mb.2 - (zbud CT m i mi.2.1 k).2) h0 lo ρ q.1 q.2 := by
            refine zall_of (fun q k2 k3 e2 => ?_) e
            intro ρ' h' a I'
            refine ih e2 ?_ hlo (fun v hv => (a v (by omega)).trans (hρ v hv)) I' (C.to (Nat.le_refl _) a)
            cases w : Nat.beq q.1 (i + 1) with
            | true =>
              rw [beqN w]
              exact hR'
            | false => exact zdrp_of
          cases w : (Nat.beq mi.2.1 67 || Nat.beq mi.2.1 68) with
          | true =>
            rw [w, cond_true] at e1
            have ez : zbud CT m i mi.2.1 k = zbc CT k := by unfold zbud; rw [w, cond_true]
            rw [ez] at wb1 wb2 kk
            rw [Bool.or_eq_true] at w
            exact xCall_of gk tk hct hm hi (w.imp beqN beqN) I e1 ⟨wb1, wb2⟩ kk
          | false =>
            rw [w, cond_false] at e1
            cases w2 : Nat.beq mi.2.1 99 with
            | true =>
              rw [w2, cond_true] at e1
              have ez : zbud CT m i mi.2.1 k = zbx CT m i k := by unfold zbud; rw [w, cond_false, w2, cond_true]
              rw [ez] at wb1 wb2 kk
              exact xExt_of gk tk hct hm I e1 ⟨wb1, wb2⟩ kk
            | false =>
              rw [w2, cond_false] at e1
              have ez : zbud CT m i mi.2.1 k = (0, 0) := by unfold zbud; rw [w, cond_false, w2, cond_false]
              rw [ez] at kk
              exact ist_of (pgT_ok0 m hm) gk tk hi I e1 kk
        · cases e
    · split at e
      · next a k1 =>
        split at e
        · next x hx =>
          cases w : (Nat.beq x.1 i && (Nat.ble x.2.2.2.2.1 mb.1 && Nat.ble x.2.2.2.2.2 mb.2)) with
          | false => rw [w] at e; cases e
          | true =>
            rw [w, cond_true] at e
            obtain ⟨w1, w2⟩ := andB w
            obtain ⟨w2, w3⟩ := andB w2
            rw [← beqN w1]
            exact m_room (bleN w2) (bleN w3) (zjmp_of e I fun ρ' a I' ms => (C x (zget_mem hx)).2.2 ρ' h a I' ms)
        · cases e
      · cases e
    · split at e
      · next b lo' k1 =>
        split at e
        · next lab k2 e1 =>
          split at e
          next t k3 e2 =>
          cases w : (Nat.ble lo b && (Nat.ble b lo' && zblw lo' t)) with
          | false => rw [w] at e; cases e
          | true =>
            rw [w, cond_true] at e
            obtain ⟨b1, b2⟩ := andB w
            obtain ⟨b2, b3⟩ := andB b2
            have b1 := bleN b1
            have b2 := bleN b2
            split at e
            · next k4 e3 =>
              have body : ∀ (N : Nat) (ρ' : Nat → Int) (h' : MH), (∀ v, v < b → ρ' v = ρ v) → Inv G T (kMd c) h0 ρ' h' lab → zv ρ' t < (N : Int) → MW (kT m) (Qct G T c ρs h0) mb.1 mb.2 (pcA (pgT m) i) (zL ρ' lab.1) (zSk ρ' lab.2.1) h' := by
                intro N
                induction N with
                | zero =>
                  intro ρ' h' a I' lt
                  refine ih e hR (by omega) (fun v hv => (a v (by omega)).trans (hρ v hv)) I' ?_
                  intro x hx
                  rcases List.mem_cons.mp hx with z | z
                  · subst z
                    refine ⟨b2, b3, fun ρ2 h2 a2 I2 ms => ?_⟩
                    have ms : 0 ≤ zv ρ2 t ∧ zv ρ2 t < zv ρ' t := ms
                    omega
                  · exact (C.to (by omega) fun v hv => a v (by omega)) x z
                | succ N iN =>
                  intro ρ' h' a I' lt
                  refine ih e hR (by omega) (fun v hv => (a v (by omega)).trans (hρ v hv)) I' ?_
                  intro x hx
                  rcases List.mem_cons.mp hx with z | z
                  · subst z
                    refine ⟨b2, b3, fun ρ2 h2 a2 I2 ms => ?_⟩
                    have ms : 0 ≤ zv ρ2 t ∧ zv ρ2 t < zv ρ' t := ms
                    exact iN ρ2 h2 (fun v hv => (a2 v hv).trans (a v hv)) I2 (by omega)
                  · exact (C.to (by omega) fun v hv => a v (by omega)) x z
              exact zjmp_of (x := (i, b, lab, none, mb)) e3 I fun ρ' a I' _ => body (zv ρ' t + 1).toNat ρ' h a I' (by omega)
            · cases e
        · cases e
      · cases e
    · split at e
      · next j b lo' u v k1 =>
        split at e
        · next lab k2 e1 =>
          cases w : (Nat.ble lo b && Nat.ble b lo') with
          | false => rw [w] at e; cases e
          | true =>
            rw [w, cond_true] at e
            obtain ⟨b1, b2⟩ := andB w
            have b1 := bleN b1
            have b2 := bleN b2
            split at e
            · next k3 e2 =>
              refine ih e hR (by omega) hρ I ?_
              intro x hx
              rcases List.mem_cons.mp hx with z | z
              · subst z
                refine ⟨b2, trivial, fun ρ' h' a I' _ => ?_⟩
                exact ih (mb := (u, v)) e2 zdrp_of (by omega) (fun v hv => (a v (show v < b by omega)).trans (hρ v hv)) I' (C.to (by omega) fun v hv => a v (show v < b by omega))
              · exact (C.to (by omega) fun v hv => rfl) x z
            · cases e
        · cases e
      · cases e
    · split at e
      · cases e
      · next mi R' =>
        exact zret_of hm wf (drop_at hR).1 I (fun v hv => hρ v (hl0 v hv)) e
    · split at e
      · cases e
      · next mi R' =>
        obtain ⟨hi, hR'⟩ := drop_at hR
        split at e
        · next ss k1 e1 =>
          refine xSp_of hm hi I e1 (zall_of (P := fun q => q.1 = i + 1 → Go G T (kMd c) (pgT m) (kT m) (Qct G T c ρs h0) mb.1 mb.2 h0 lo ρ q.1 q.2) (fun q k2 k3 e2 => ?_) e)
          intro hq ρ' h' a I'
          exact ih e2 (by rw [hq]; exact hR') hlo (fun v hv => (a v (by omega)).trans (hρ v hv)) I' (C.to (Nat.le_refl _) a)
        · cases e
    · split at e
      · next a k1 =>
        split at e
        · next v hv =>
          cases w : Nat.ble v.1 1 with
          | false => rw [w] at e; cases e
          | true =>
            rw [w, cond_true] at e
            refine m_okS fun oL oS => ?_
            have mv : mok (v.1, zv ρ v.2) := oL (a, (v.1, zv ρ v.2)) (List.mem_map.mpr ⟨(a, v), zlk_mem hv, rfl⟩)
            exact ih (s := (s.1, s.2.1, (rngF v.1 v.2 ++ s.2.2.1, s.2.2.2))) e hR hlo hρ ⟨I.1.facts (mok_rng mv w), I.2⟩ C
        · cases e
      · cases e
    · split at e
      · next v S hS =>
        cases w : Nat.ble v.1 1 with
        | false => rw [w] at e; cases e
        | true =>
          rw [w, cond_true] at e
          refine m_okS fun oL oS => ?_
          have mv : mok (v.1, zv ρ v.2) := oS (v.1, zv ρ v.2) (by rw [hS]; exact List.mem_cons_self)
          exact ih (s := (s.1, s.2.1, (rngF v.1 v.2 ++ s.2.2.1, s.2.2.2))) e hR hlo hρ ⟨I.1.facts (mok_rng mv w), I.2⟩ C
      · cases e
    · split at e
      · next v S hS =>
        split at e
        next t k1 e1 =>
        split at e
        next cs k2 e2 =>
        cases w : zcerts s.2.2.1 cs [zsb v.2 t, zsb t v.2] with
        | false => rw [w] at e; cases e
        | true =>
          rw [w, cond_true] at e
          have c := zcerts_of I.1.1 w
          have c1 := c _ List.mem_cons_self
          have c2 := c _ (List.mem_cons_of_mem _ List.mem_cons_self)
          rw [zsb_v] at c1 c2
          have q := ih (s := (s.1, (v.1, t) :: S, s.2.2)) e hR hlo hρ ⟨I.1, I.2⟩ C
          have e9 : zSk ρ s.2.1 = zSk ρ ((v.1, t) :: S) := by
            rw [hS]
            show (v.1, zv ρ v.2) :: zSk ρ S = (v.1, zv ρ t) :: zSk ρ S
            rw [show zv ρ v.2 = zv ρ t by omega]
          rw [e9]
          exact q
      · cases e
    · split at e
      · next s' k1 e1 =>
        obtain ⟨F, B', q1, q2, q3, q4, q5, q6, q7⟩ := xGh_of gk tk I.1 I.2.1 e1
        have q := ih e hR hlo hρ ⟨B', q4, I.2.2.trans q3⟩ C
        rw [q1, q2] at q
        exact m_gh (by decide) q5 q6 q7 q
      · cases e
    · split at e
      · next K k1 e1 =>
        exact ih (s := (s.1, s.2.1, K)) e hR hlo hρ ⟨gAddI_of I.1 e1, I.2⟩ C
      · cases e
    · split at e
      · next s' k1 e1 =>
        obtain ⟨F, B', q1, q2, q3, q4, q5, q6, q7⟩ := xRec_of gk tk I.1 I.2.1 e1
        have q := ih e hR hlo hρ ⟨B', q4, I.2.2.trans q3⟩ C
        rw [q1, q2] at q
        exact m_gh (by decide) q5 q6 q7 q
      · cases e
    · split at e
      next t k1 e1 =>
      split at e
      · next k2 e2 =>
        by_cases q : 0 ≤ zv ρ t
        · exact ih (s := (s.1, s.2.1, (t :: s.2.2.1, s.2.2.2))) e2 hR hlo hρ ⟨I.1.fact q, I.2⟩ C
        · exact ih (s := (s.1, s.2.1, (zpl (zsm (-1) t) (-1) :: s.2.2.1, s.2.2.2))) e hR hlo hρ ⟨I.1.fact (by rw [zpl_v, zsm_v]; omega), I.2⟩ C
      · cases e
    · split at e
      next d k1 e1 =>
      cases w : zcert s.2.2.1 d (zc (-1)) with
      | false => rw [w] at e; cases e
      | true =>
        have := zcert_of I.1.1 w
        rw [zc_v] at this
        exact absurd this (by decide)
    · exact (gNone_of I.1 e).elim
    · split at e
      · next K k1 e1 =>
        exact ih (s := (s.1, s.2.1, K)) e hR hlo hρ ⟨gAdd_of I.1 e1, I.2⟩ C
      · cases e
    · split at e
      · next a k1 =>
        split at e
        · next x hx =>
          cases w : (zall2 zXeq cx x.2.2.2.2.2.1 && (Nat.ble lo x.2.1 && Nat.ble x.2.1 x.2.2.1)) with
          | false => rw [w] at e; cases e
          | true =>
            rw [w, cond_true] at e
            obtain ⟨w1, w2⟩ := andB w
            obtain ⟨b1, b2⟩ := andB w2
            have b1 := bleN b1
            have b2 := bleN b2
            have w1 := zall2_of zXeq_of w1
            refine ih e hR (by omega) hρ I ?_
            intro y hy
            rcases List.mem_cons.mp hy with z | z
            · subst z
              refine ⟨b2, trivial, fun ρ' h' a I' _ => ?_⟩
              refine hEL x (zget_mem hx) ρ' h' (fun v hv => (a v (show v < x.2.1 by omega)).trans (hρ v hv)) I' ?_
              rw [← w1]
              exact C.to (by omega) fun v hv => a v (show v < x.2.1 by omega)
            · exact (C.to (by omega) fun v hv => rfl) y z
        · cases e
      · cases e
    · split at e
      · next K k1 e1 =>
        obtain ⟨ρ', a, b⟩ := gh0_of I.1 e1
        have q := gh0_st (l := s.1) (S := s.2.1) (fun v hv => by
          unfold zfrS
          rw [hv, Bool.and_eq_false_iff]
          exact Or.inr rfl) a
        have al : ∀ v, v < lo → ρ' v = ρ v := fun v hv => a v (by
          unfold zfrS
          rw [Bool.and_eq_false_iff]
          left
          cases w : Nat.ble lo v with
          | false => rfl
          | true => have := bleN w; omega)
        have r := ih (s := (s.1, s.2.1, K)) e hR hlo (fun v hv => (al v (by omega)).trans (hρ v hv)) ⟨b, I.2⟩ (C.to (Nat.le_refl _) al)
        replace r : MW (kT m) (Qct G T c ρs h0) mb.1 mb.2 (pcA (pgT m) i) (zL ρ' s.1) (zSk ρ' s.2.1) h := r
        rw [q.1, q.2] at r
        exact r
      · cases e
end LE
def zlabE (G : ZG) (T : ZTab) (cs : List ZCt) (c : ZCt) (l0 n : Nat) (EL : List ZXE) (e : ZXE) (sc : List Nat) : Bool := ctWf c && ((cAv c).all (fun v => Nat.blt v l0) && (Nat.blt c.1 821 && (Nat.ble l0 e.2.2.1 && (zrunE EL G T (kMd c) (zget cs) c.1 c (pgT c.1) n (e.2.2.2.1, e.2.2.2.2.1) e.2.2.1 e.2.2.2.2.2.1 e.1 (zdrp e.1 (pgT c.1).1) e.2.2.2.2.2.2 (zunpL n sc)).isSome)))
theorem zlabE_of {G : ZG} {T : ZTab} (gk : GOk G) (tk : TabOk T) {cs : List ZCt} (hcs : ∀ c ∈ cs, CtOk G T c) {c : ZCt} {l0 n : Nat} {EL : List ZXE} (hEL : ∀ e ∈ EL, LbOk G T c l0 e) {e : ZXE} {sc : List Nat} (q : zlabE G T cs c l0 n EL e sc = true) : LbOk G T c l0 e := by
  obtain ⟨h1, h2⟩ := andB q
  obtain ⟨h2, h3⟩ := andB h2
  obtain ⟨h3, h4⟩ := andB h3
  obtain ⟨h4, h5⟩ := andB h4
  obtain ⟨k', hk⟩ := Option.isSome_iff_exists.mp h5
  intro ρs h0 ρ h hρ I C
  exact zrunE_of (h0 := h0) (ρs := ρs) gk tk (fun j c hc => hcs c (zget_mem hc)) (bltN h3) h1 (fun v hv => bltN (List.all_eq_true.mp h2 v (zmem_of hv))) (fun e he => hEL e he ρs h0) n hk zdrp_of (bleN h4) hρ I C
def zchkE (G : ZG) (T : ZTab) (cs : List ZCt) (c : ZCt) (l0 n : Nat) (EL : List ZXE) (sc : List Nat) : Bool := ctWf c && ((cAv c).all (fun v => Nat.blt v l0) && (Nat.blt c.1 821 && ((Nat.beq (kT c.1).1 0 || Nat.beq (kT c.1).1 1) && (Nat.ble (zcats (kA c)) (kT c.1).2.2.2.1 && (Nat.beq (pcA (pgT c.1) 0) 0 && (zrunE EL G T (kMd c) (zget cs) c.1 c (pgT c.1) n (kMc c, kMs c) l0 [] 0 (pgT c.1).1 (zst0 c) (zunpL n sc)).isSome)))))
theorem zchkE_of {G : ZG} {T : ZTab} (gk : GOk G) (tk : TabOk T) {cs : List ZCt} (hcs : ∀ c ∈ cs, CtOk G T c) {c : ZCt} {l0 n : Nat} {EL : List ZXE} (hEL : ∀ e ∈ EL, LbOk G T c l0 e) {sc : List Nat} (e : zchkE G T cs c l0 n EL sc = true) : CtOk G T c := by
  obtain ⟨h1, h2⟩ := andB e
  obtain ⟨h2, h3⟩ := andB h2
  obtain ⟨h3, h4⟩ := andB h3
  obtain ⟨h4, h5⟩ := andB h4
  obtain ⟨h5, h6⟩ := andB h5
  obtain ⟨h6, h7⟩ := andB h6
  refine ⟨h1, fun q hq ρ h g he hf hv hl => ?_⟩
  obtain ⟨k', hk⟩ := Option.isSome_iff_exists.mp h7
  have mf := mtab_ok q (List.mem_of_getElem? hq)
  have eK : kT c.1 = q.1 := by unfold kT; rw [hq]
  have w := zrunE_of (h0 := h) (ρs := ρ) (ρ := ρ) (h := h) gk tk (fun j c hc => hcs c (zget_mem hc)) (bltN h3) h1 (fun v hv => bltN (List.all_eq_true.mp h2 v (zmem_of hv))) (fun e he => hEL e he ρ h) n hk rfl (Nat.le_refl _) (fun _ _ => rfl) ⟨⟨hf, fun _ hd => absurd hd List.not_mem_nil, fun a ha => by
    obtain ⟨x, m, rfl⟩ := List.mem_map.mp ha
    unfold zA
    rw [zx_v]
    exact he x m, fun d hd => by
    rcases List.mem_append.mp hd with hd | hd
    · obtain ⟨x, m, rfl⟩ := List.mem_map.mp hd
      have p := bltN (List.all_eq_true.mp (andB (andB (andB (andB (andB (andB h1).2).2).2).2).1).1 x m)
      match x, p, m with
      | x + 1, _, m => exact hv _ m
    · obtain ⟨b, m, rfl⟩ := List.mem_map.mp hd
      exact hl b m⟩, g, Frm.refl _ _⟩ (fun x hx => absurd hx List.not_mem_nil)
  rw [beqN h6, eK] at w
  refine MCal.ofMW ?_ ⟨mf.2.1, mf.2.2.1⟩ ?_ ?_ (fun _ => mtab_fr (List.mem_of_getElem? (by assumption)))
  · rw [eK, Bool.or_eq_true] at h4
    exact h4.elim (fun z => Or.inl (beqN z)) fun z => Or.inr (Or.inl (beqN z))
  · rw [eK] at h5
    have := bleN h5
    show ((((kA c).map fun q => (q.1, zv ρ q.2)) : List MV).map mcat).sum ≤ _
    have s : ((zSk ρ (kA c)).map mcat).sum = zcats (kA c) := zcats_of ρ (kA c)
    unfold zSk at s
    rw [s]
    exact this
  · rw [zar_of]
    exact w
/-- a label as the script tells it -/
def lbS (tb : List Nat) (k : List Nat) : ZSt := match rdSt tb (zunpL 1000000 k) with
  | some (s, _) => s
  | none => ([], [], ([], [], [], []))
def lbT (k : List Nat) : ZT := (rdT (zunpL 1000 k)).1
