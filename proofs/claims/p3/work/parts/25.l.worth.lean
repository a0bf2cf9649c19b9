/-! what a script's run is worth -/
section LA
variable {G : ZG} {T : ZTab} {CT : Nat → Option ZCt} {m : Nat} {c : ZCt} {h0 : MH}
theorem zen_dom {A : List ZA} {v : Nat} : ∀ {l : List (ZT × ZT × Nat)} {es : List Nat}, (∀ e ∈ l, e.2.2 ≠ v) → ((zen A l es).any fun q => Nat.beq q.1 v) = false
  | [], _, _ => by unfold zen; rfl
  | e :: r, [], _ => rfl
  | e :: r, a :: s, h => by
    unfold zen
    have ih := zen_dom (A := A) (es := s) fun x hx => h x (List.mem_cons_of_mem _ hx)
    split
    · next q hq =>
      rw [List.any_cons, ih, Bool.or_false]
      cases w : Nat.beq e.2.2 v with
      | false => rfl
      | true => exact absurd (beqN w) (h e List.mem_cons_self)
    · exact ih
theorem zret_of (hm : m < 821) {ρs ρ : Nat → Int} {h : MH} {i : Nat} {mi : MI} {s : ZSt} {k k' : List Nat} (wf : ctWf c = true) (hi : (pgT m).1[i]? = some mi) (I : Inv G T (kMd c) h0 ρ h s) (hρ : ∀ v, zmem v (cAv c) = true → ρ v = ρs v) (e : zret c m i mi s k = some k') {mc ms : Nat} : MW (kT m) (Qct G T c ρs h0) mc ms (pcA (pgT m) i) (zL ρ s.1) (zSk ρ s.2.1) h := by
  obtain ⟨w1, w2⟩ := andB wf
  obtain ⟨w2, w3⟩ := andB w2
  obtain ⟨w3, w4⟩ := andB w3
  obtain ⟨w4, w5⟩ := andB w4
  unfold zret at e
  split at e
  next es k1 e1 =>
  split at e
  · next σ0 e2 =>
    split at e
    · next k2 e3 =>
      generalize hσ : σ0 ++ zen s.2.2.2.2.1 (kO c) es = σ at e
      cases e4 : zent σ s.2.2.2.2.1 (kO c) es with
      | false => rw [e4] at e; cases e
      | true =>
        rw [e4, cond_true] at e
        split at e
        next cs k3 e5 =>
        cases e6 : zcerts s.2.2.1 cs ((kEF c).map (zS σ)) with
        | false => rw [e6] at e; cases e
        | true =>
          rw [e6, cond_true] at e
          split at e
          · next k4 e7 =>
            split at e
            next vs k5 e8 =>
            split at e
            next ls k6 e10 =>
            cases e9' : (zreqV s.2.2.2.2.2 (kEV c) vs && jV σ s.2.2.2.2.2 ((kLE c).map fun b => (0, b)) ls) with
            | false => rw [e9'] at e; cases e
            | true =>
              obtain ⟨e9, e11⟩ := andB e9'
              obtain ⟨_, w7⟩ := andB w5
              -- whatever is answered, if it is as σ0 says
              have dj : ∀ v, zmem v (cAv c) = true → ∀ x ∈ cOv c, x ≠ v := fun v hv x hx q => by
                subst q
                have := notB (List.all_eq_true.mp w4 x (zmem_of hv))
                rw [mem_zmem hx] at this
                cases this
              have post : ∀ o : MO, (∀ q ∈ σ0, q.1 ∈ cOv c) → (match kRs c with
                  | none => o.1 = 0
                  | some q => o.1 = 1 ∧ o.2 = (q.1, zσ σ ρ q.2)) → Qct G T c ρs h0 o h := fun o dom res => by
                let ρ' : Nat → Int := fun v => if zmem v (cAv c) = true then ρs v else zσ σ ρ v
                have same : ∀ v, zmem v (cAv c) = true ∨ zmem v (cOv c) = true → ρ' v = zσ σ ρ v := fun v _ => by
                  show (if zmem v (cAv c) = true then ρs v else zσ σ ρ v) = zσ σ ρ v
                  cases w : zmem v (cAv c) with
                  | false => rfl
                  | true =>
                    rw [if_pos rfl, ← hρ v w]
                    refine (zσ_no ?_).symm
                    rw [← hσ, List.any_append, zen_dom fun e he => dj v w e.2.2 (List.mem_append_right _ (List.mem_map.mpr ⟨e, he, rfl⟩)), Bool.or_false]
                    cases u : (σ0.any fun q => Nat.beq q.1 v) with
                    | false => rfl
                    | true =>
                      obtain ⟨q, mq, hq⟩ := List.any_eq_true.mp u
                      exact absurd (beqN hq) (dj v w q.1 (dom q mq))
                have tv : ∀ {t : ZT}, (!(zoc (cBad c) t)) = true → zv ρ' t = zv (zσ σ ρ) t := fun ht => zbad_of ht same
                refine ⟨ρ', fun v hv => if_pos hv, ?_, I.2.1, I.2.2, fun x hx => ?_, fun f hf => ?_, fun d hd => ?_, zreqV_of I.1.2.2.2 e9, fun b hb => ?_⟩
                · have ov : ∀ q, kRs c = some q → q.2 ∈ cOv c := fun q hq => by
                    unfold cOv
                    rw [hq]
                    exact List.mem_append_left _ List.mem_cons_self
                  cases w : kRs c with
                  | none => rw [w] at res; exact res
                  | some q =>
                    rw [w] at res
                    have res : o.1 = 1 ∧ o.2 = (q.1, zσ σ ρ q.2) := res
                    show o.1 = 1 ∧ o.2 = (q.1, ρ' q.2)
                    rw [same q.2 (Or.inr (mem_zmem (ov q w)))]
                    exact res
                · obtain ⟨u1, u2⟩ := andB (List.all_eq_true.mp w1 x hx)
                  rw [tv u1, tv u2, same x.2.2 (Or.inr (mem_zmem (List.mem_append_right _ (List.mem_map.mpr ⟨x, hx, rfl⟩))))]
                  exact zent_of I.1.2.2.1 e4 x hx
                · rw [tv (List.all_eq_true.mp w2 f hf)]
                  have := zcerts_of I.1.1 e6 (zS σ f) (List.mem_map.mpr ⟨f, hf, rfl⟩)
                  rw [zS_v] at this
                  exact this
                · obtain ⟨f, mf, p⟩ := jD_of I.1 e7 d hd
                  exact ⟨f, mf, by rw [tv (List.all_eq_true.mp (List.all_eq_true.mp w3 d hd) f mf)]; exact p⟩
                · refine zB_cg (f := cBad c) (notB (List.all_eq_true.mp w7 b hb)) (fun v hv => same v ?_) (jV_of I.1.2.2.2 e11 (0, b) (List.mem_map.mpr ⟨b, hb, rfl⟩))
                  have : (zmem v (cAv c) || zmem v (cOv c)) = true := by
                    cases w : (zmem v (cAv c) || zmem v (cOv c)) with
                    | true => rfl
                    | false =>
                      unfold cBad at hv
                      rw [w] at hv
                      cases hv
                  exact Bool.or_eq_true _ _ ▸ this
              have dom1 : ∀ {q : Nat × Nat} {t : ZT}, kRs c = some q → σ0 = [(q.2, t)] → ∀ p ∈ σ0, p.1 ∈ cOv c := fun {q t} hq hs p hp => by
                rw [hs] at hp
                rw [List.mem_singleton.mp hp]
                unfold cOv
                rw [hq]
                exact List.mem_append_left _ List.mem_cons_self
              have at0 : ∀ {x : Nat} {t : ZT}, σ0 = [(x, t)] → zσ σ ρ x = zv ρ t := fun {x t} hs => by
                rw [← hσ, hs]
                show zv ρ (bif Nat.beq x x then t else _) = zv ρ t
                rw [Nat.beq_refl]
                rfl
              obtain ⟨pc, op, z, a, b, cc⟩ := mi
              split at e2
              · next ho hS hr =>
                cases e2
                have ho : op = 63 := ho
                subst ho
                refine so1 (pgT_ok0 m hm) hi ?_
                rw [hS]
                refine ⟨rfl, post (0, (0, 0)) (fun q hq => absurd hq List.not_mem_nil) ?_⟩
                rw [hr]
              · next v q ho hS hr =>
                have ho : op = 61 := ho
                subst ho
                refine so1 (pgT_ok0 m hm) hi ?_
                cases u : (Nat.beq v.1 0 && Nat.beq q.1 0) with
                | false => rw [u] at e2; cases e2
                | true =>
                  rw [u, cond_true] at e2
                  obtain ⟨u1, u2⟩ := andB u
                  have u1 := beqN u1
                  have u2 := beqN u2
                  have e2 : σ0 = [(q.2, v.2)] := (Option.some.inj e2).symm
                  rw [hS]
                  have e3 : zrb s.2.2.1 61 a s.2.1 k1 = some k2 := e3
                  rw [hS] at e3
                  refine ⟨u1, fun q4 => ?_, fun q5 => ?_, post (1, (v.1, zv ρ v.2)) (dom1 hr e2) ?_⟩
                  · subst q4
                    exact zwi_of I.1.1 e3
                  · subst q5
                    exact zwi_of I.1.1 e3
                  · rw [hr]
                    exact ⟨rfl, by rw [at0 e2, u1, u2]⟩
              · next v q ho hS hr =>
                have ho : op = 62 := ho
                subst ho
                refine so1 (pgT_ok0 m hm) hi ?_
                cases u : (Nat.beq v.1 1 && Nat.beq q.1 1) with
                | false => rw [u] at e2; cases e2
                | true =>
                  rw [u, cond_true] at e2
                  obtain ⟨u1, u2⟩ := andB u
                  have u1 := beqN u1
                  have u2 := beqN u2
                  have e2 : σ0 = [(q.2, v.2)] := (Option.some.inj e2).symm
                  rw [hS]
                  refine ⟨u1, post (1, (v.1, zv ρ v.2)) (dom1 hr e2) ?_⟩
                  rw [hr]
                  exact ⟨rfl, by rw [at0 e2, u1, u2]⟩
              · next v q ho hS hr =>
                have ho : op = 64 := ho
                subst ho
                refine so1 (pgT_ok0 m hm) hi ?_
                cases u : (Nat.beq v.1 2 && Nat.beq q.1 2) with
                | false => rw [u] at e2; cases e2
                | true =>
                  rw [u, cond_true] at e2
                  obtain ⟨u1, u2⟩ := andB u
                  have u1 := beqN u1
                  have u2 := beqN u2
                  have e2 : σ0 = [(q.2, v.2)] := (Option.some.inj e2).symm
                  rw [hS]
                  refine ⟨u1, post (1, (v.1, zv ρ v.2)) (dom1 hr e2) ?_⟩
                  rw [hr]
                  exact ⟨rfl, by rw [at0 e2, u1, u2]⟩
              · next v q ho hS hr =>
                cases u : (zdr m i && (Nat.beq v.1 3 && Nat.beq q.1 3)) with
                | false => rw [u] at e2; cases e2
                | true =>
                  rw [u, cond_true] at e2
                  obtain ⟨u0, u1⟩ := andB u
                  obtain ⟨u1, u2⟩ := andB u1
                  have u1 := beqN u1
                  have u2 := beqN u2
                  have e2 : σ0 = [(q.2, v.2)] := (Option.some.inj e2).symm
                  unfold zdr at u0
                  split at u0
                  · next x y hf =>
                    have o : (okT (kT m) (pcA (pgT m) i) .dreturn 1 && decide ((kT m).2.2.2.2.1 = some .double)) = true := (andB (okX_at hf)).2
                    obtain ⟨o1, o2⟩ := andB o
                    rw [hS]
                    show MW _ _ _ _ _ _ [(v.1, zv ρ v.2)] h
                    rw [u1]
                    refine m_dreturn (okT_of o1) (of_decide_eq_true o2) (post (1, (3, zv ρ v.2)) (dom1 hr e2) ?_)
                    rw [hr]
                    exact ⟨rfl, by rw [at0 e2, u2]⟩
                  · cases u0
              · cases e2
          · cases e
    · cases e
  · cases e
theorem zall_of {f : Nat × ZSt → List Nat → Option (List Nat)} {P : Nat × ZSt → Prop} (hf : ∀ q k k', f q k = some k' → P q) : ∀ {l : List (Nat × ZSt)} {k k' : List Nat}, zall f l k = some k' → ∀ q ∈ l, P q
  | [], _, _, _, q, hq => absurd hq List.not_mem_nil
  | x :: r, k, k', e, q, hq => by
    unfold zall at e
    split at e
    · next k1 e1 =>
      rcases List.mem_cons.mp hq with w | w
      · exact w ▸ hf x k k1 e1
      · exact zall_of hf e q w
    · cases e
theorem drop_at {α : Type} {l : List α} {i : Nat} {x : α} {r : List α} (h : x :: r = l.drop i) : l[i]? = some x ∧ r = l.drop (i + 1) := by
  have h1 : (l.drop i)[0]? = some x := by rw [← h]; rfl
  rw [List.getElem?_drop, Nat.add_zero] at h1
  refine ⟨h1, ?_⟩
  have : (l.drop i).drop 1 = l.drop (i + 1) := List.drop_drop
  rw [← this, ← h]
  rfl
theorem gh0_st {fr : Nat → Bool} {l : ZLs} {S : ZSs} {ρ ρ' : Nat → Int} (hl : ∀ v, (zocL (Nat.beq v) l || zocS (Nat.beq v) S) = true → fr v = false) (h : ∀ v, fr v = false → ρ' v = ρ v) : zL ρ' l = zL ρ l ∧ zSk ρ' S = zSk ρ S := by
  constructor
  · unfold zL
    refine List.map_congr_left fun q hq => ?_
    rw [show zv ρ' q.2.2 = zv ρ q.2.2 from zv_cg fun p hp => h p.1 (hl p.1 (by
      rw [Bool.or_eq_true]
      exact Or.inl (List.any_eq_true.mpr ⟨q, hq, zany_self (k := p.2) hp⟩)))]
  · unfold zSk
    refine List.map_congr_left fun q hq => ?_
    rw [show zv ρ' q.2 = zv ρ q.2 from zv_cg fun p hp => h p.1 (hl p.1 (by
      rw [Bool.or_eq_true]
      exact Or.inr (List.any_eq_true.mpr ⟨q, hq, zany_self (k := p.2) hp⟩)))]
theorem mok_rng {v : Nat × ZT} {ρ : Nat → Int} (h : mok (v.1, zv ρ v.2)) (h1 : Nat.ble v.1 1 = true) : ∀ f ∈ rngF v.1 v.2, 0 ≤ zv ρ f := by
  obtain ⟨t, x⟩ := v
  have h1 : t ≤ 1 := bleN h1
  match t, h1, h with
  | 0, _, h => exact rngF_of h.1 h.2
  | 1, _, h => exact rngF_of (tag := 1) h.1 h.2
  | t + 2, h1, _ => omega
theorem zrun_of (gk : GOk G) (tk : TabOk T) (hct : ∀ j c, CT j = some c → CtOk G T c) (hm : m < 821) (wf : ctWf c = true) {l0 : Nat} (hl0 : ∀ v, zmem v (cAv c) = true → v < l0) {ρs : Nat → Int} : ∀ (n : Nat) {mb : Nat × Nat} {lo : Nat} {cx : List ZX} {i : Nat} {R : List MI} {s : ZSt} {k k' : List Nat}, zrun G T (kMd c) CT m c (pgT m) n mb lo cx i R s k = some k' → R = (pgT m).1.drop i → l0 ≤ lo → ∀ {ρ : Nat → Int} {h : MH}, (∀ v, v < l0 → ρ v = ρs v) → Inv G T (kMd c) h0 ρ h s → CxOk G T (kMd c) m (Qct G T c ρs h0) h0 lo cx ρ → MW (kT m) (Qct G T c ρs h0) mb.1 mb.2 (pcA (pgT m) i) (zL ρ s.1) (zSk ρ s.2.1) h
  | 0, _, _, _, _, _, _, _, _, e, _, _, _, _, _, _, _ => by cases e
  | _ + 1, _, _, _, _, _, _, [], _, e, _, _, _, _, _, _, _ => by cases e
  | n + 1, mb, lo, cx, i, R, s, o :: k, k', e, hR, hlo, ρ, h, hρ, I, C => by
    have ih := @zrun_of gk tk hct hm wf l0 hl0 ρs n
    unfold zrun at e
    split at e
    · split at e
      · cases e
      · next mi R' =>
        obtain ⟨hi, hR'⟩ := drop_at hR
        split at e
        · next ss k1 e1 =>
          cases wb : (Nat.ble (zbud CT m i mi.2.1 k).1 mb.1 && Nat.ble (zbud CT m i mi.2.1 k).2 mb.2) with
          | false => rw [wb] at e; cases e
          | true =>
          rw [wb, cond_true] at e
          obtain ⟨wb1, wb2⟩ := andB wb
          have wb1 := bleN wb1
          have wb2 := bleN wb2
          have kk : ∀ q ∈ ss, Go G T (kMd c) (pgT m) (kT m) (Qct G T c ρs h0) (mb.1 - (zbud CT m i mi.2.1 k).1) (mb.2 - (zbud CT m i mi.2.1 k).2) h0 lo ρ q.1 q.2 := by
            refine zall_of (fun q k2 k3 e2 => ?_) e
            intro ρ' h' a I'
            refine ih e2 ?_ hlo (fun v hv => (a v (by omega)).trans (hρ v hv)) I' (C.to (Nat.le_refl _) a)
            cases w : Nat.beq q.1 (i + 1) with
            | true =>
              rw [beqN w]
              exact hR'
            | false => exact zdrp_of
          cases w : (Nat.beq mi.2.1 67 || Nat.beq mi.2.1 68) with
          | true =>
            rw [w, cond_true] at e1
            have ez : zbud CT m i mi.2.1 k = zbc CT k := by unfold zbud; rw [w, cond_true]
            rw [ez] at wb1 wb2 kk
            rw [Bool.or_eq_true] at w
            exact xCall_of gk tk hct hm hi (w.imp beqN beqN) I e1 ⟨wb1, wb2⟩ kk
          | false =>
            rw [w, cond_false] at e1
            cases w2 : Nat.beq mi.2.1 99 with
            | true =>
              rw [w2, cond_true] at e1
              have ez : zbud CT m i mi.2.1 k = zbx CT m i k := by unfold zbud; rw [w, cond_false, w2, cond_true]
              rw [ez] at wb1 wb2 kk
              exact xExt_of gk tk hct hm I e1 ⟨wb1, wb2⟩ kk
            | false =>
              rw [w2, cond_false] at e1
              have ez : zbud CT m i mi.2.1 k = (0, 0) := by unfold zbud; rw [w, cond_false, w2, cond_false]
              rw [ez] at kk
              exact ist_of (pgT_ok0 m hm) gk tk hi I e1 kk
        · cases e
    · split at e
      · next a k1 =>
        split at e
        · next x hx =>
          cases w : (Nat.beq x.1 i && (Nat.ble x.2.2.2.2.1 mb.1 && Nat.ble x.2.2.2.2.2 mb.2)) with
          | false => rw [w] at e; cases e
          | true =>
            rw [w, cond_true] at e
            obtain ⟨w1, w2⟩ := andB w
            obtain ⟨w2, w3⟩ := andB w2
            rw [← beqN w1]
            exact m_room (bleN w2) (bleN w3) (zjmp_of e I fun ρ' a I' ms => (C x (zget_mem hx)).2.2 ρ' h a I' ms)
        · cases e
      · cases e
    · split at e
      · next b lo' k1 =>
        split at e
        · next lab k2 e1 =>
          split at e
          next t k3 e2 =>
          cases w : (Nat.ble lo b && (Nat.ble b lo' && zblw lo' t)) with
          | false => rw [w] at e; cases e
          | true =>
            rw [w, cond_true] at e
            obtain ⟨b1, b2⟩ := andB w
            obtain ⟨b2, b3⟩ := andB b2
            have b1 := bleN b1
            have b2 := bleN b2
            split at e
            · next k4 e3 =>
              have body : ∀ (N : Nat) (ρ' : Nat → Int) (h' : MH), (∀ v, v < b → ρ' v = ρ v) → Inv G T (kMd c) h0 ρ' h' lab → zv ρ' t < (N : Int) → MW (kT m) (Qct G T c ρs h0) mb.1 mb.2 (pcA (pgT m) i) (zL ρ' lab.1) (zSk ρ' lab.2.1) h' := by
                intro N
                induction N with
                | zero =>
                  intro ρ' h' a I' lt
                  refine ih e hR (by omega) (fun v hv => (a v (by omega)).trans (hρ v hv)) I' ?_
                  intro x hx
                  rcases List.mem_cons.mp hx with z | z
                  · subst z
                    refine ⟨b2, b3, fun ρ2 h2 a2 I2 ms => ?_⟩
                    have ms : 0 ≤ zv ρ2 t ∧ zv ρ2 t < zv ρ' t := ms
                    omega
                  · exact (C.to (by omega) fun v hv => a v (by omega)) x z
                | succ N iN =>
                  intro ρ' h' a I' lt
                  refine ih e hR (by omega) (fun v hv => (a v (by omega)).trans (hρ v hv)) I' ?_
                  intro x hx
                  rcases List.mem_cons.mp hx with z | z
                  · subst z
                    refine ⟨b2, b3, fun ρ2 h2 a2 I2 ms => ?_⟩
                    have ms : 0 ≤ zv ρ2 t ∧ zv ρ2 t < zv ρ' t := ms
                    exact iN ρ2 h2 (fun v hv => (a2 v hv).trans (a v hv)) I2 (by omega)
                  · exact (C.to (by omega) fun v hv => a v (by omega)) x z
              exact zjmp_of (x := (i, b, lab, none, mb)) e3 I fun ρ' a I' _ => body (zv ρ' t + 1).toNat ρ' h a I' (by omega)
            · cases e
        · cases e
      · cases e
    · split at e
      · next j b lo' u v k1 =>
        split at e
        · next lab k2 e1 =>
          cases w : (Nat.ble lo b && Nat.ble b lo') with
          | false => rw [w] at e; cases e
          | true =>
            rw [w, cond_true] at e
            obtain ⟨b1, b2⟩ := andB w
            have b1 := bleN b1
            have b2 := bleN b2
            split at e
            · next k3 e2 =>
              refine ih e hR (by omega) hρ I ?_
              intro x hx
              rcases List.mem_cons.mp hx with z | z
              · subst z
                refine ⟨b2, trivial, fun ρ' h' a I' _ => ?_⟩
                exact ih (mb := (u, v)) e2 zdrp_of (by omega) (fun v hv => (a v (show v < b by omega)).trans (hρ v hv)) I' (C.to (by omega) fun v hv => a v (show v < b by omega))
              · exact (C.to (by omega) fun v hv => rfl) x z
            · cases e
        · cases e
      · cases e
    · split at e
      · cases e
      · next mi R' =>
        exact zret_of hm wf (drop_at hR).1 I (fun v hv => hρ v (hl0 v hv)) e
    · split at e
      · cases e
      · next mi R' =>
        obtain ⟨hi, hR'⟩ := drop_at hR
        split at e
        · next ss k1 e1 =>
          refine xSp_of hm hi I e1 (zall_of (P := fun q => q.1 = i + 1 → Go G T (kMd c) (pgT m) (kT m) (Qct G T c ρs h0) mb.1 mb.2 h0 lo ρ q.1 q.2) (fun q k2 k3 e2 => ?_) e)
          intro hq ρ' h' a I'
          exact ih e2 (by rw [hq]; exact hR') hlo (fun v hv => (a v (by omega)).trans (hρ v hv)) I' (C.to (Nat.le_refl _) a)
        · cases e
    · split at e
      · next a k1 =>
        split at e
        · next v hv =>
          cases w : Nat.ble v.1 1 with
          | false => rw [w] at e; cases e
          | true =>
            rw [w, cond_true] at e
            refine m_okS fun oL oS => ?_
            have mv : mok (v.1, zv ρ v.2) := oL (a, (v.1, zv ρ v.2)) (List.mem_map.mpr ⟨(a, v), zlk_mem hv, rfl⟩)
            exact ih (s := (s.1, s.2.1, (rngF v.1 v.2 ++ s.2.2.1, s.2.2.2))) e hR hlo hρ ⟨I.1.facts (mok_rng mv w), I.2⟩ C
        · cases e
      · cases e
    · split at e
      · next v S hS =>
        cases w : Nat.ble v.1 1 with
        | false => rw [w] at e; cases e
        | true =>
          rw [w, cond_true] at e
          refine m_okS fun oL oS => ?_
          have mv : mok (v.1, zv ρ v.2) := oS (v.1, zv ρ v.2) (by rw [hS]; exact List.mem_cons_self)
          exact ih (s := (s.1, s.2.1, (rngF v.1 v.2 ++ s.2.2.1, s.2.2.2))) e hR hlo hρ ⟨I.1.facts (mok_rng mv w), I.2⟩ C
      · cases e
    · split at e
      · next v S hS =>
        split at e
        next t k1 e1 =>
        split at e
        next cs k2 e2 =>
        cases w : zcerts s.2.2.1 cs [zsb v.2 t, zsb t v.2] with
        | false => rw [w] at e; cases e
        | true =>
          rw [w, cond_true] at e
          have c := zcerts_of I.1.1 w
          have c1 := c _ List.mem_cons_self
          have c2 := c _ (List.mem_cons_of_mem _ List.mem_cons_self)
          rw [zsb_v] at c1 c2
          have q := ih (s := (s.1, (v.1, t) :: S, s.2.2)) e hR hlo hρ ⟨I.1, I.2⟩ C
          have e9 : zSk ρ s.2.1 = zSk ρ ((v.1, t) :: S) := by
            rw [hS]
            show (v.1, zv ρ v.2) :: zSk ρ S = (v.1, zv ρ t) :: zSk ρ S
            rw [show zv ρ v.2 = zv ρ t by omega]
          rw [e9]
          exact q
      · cases e
    · split at e
      · next s' k1 e1 =>
        obtain ⟨F, B', q1, q2, q3, q4, q5, q6, q7⟩ := xGh_of gk tk I.1 I.2.1 e1
        have q := ih e hR hlo hρ ⟨B', q4, I.2.2.trans q3⟩ C
        rw [q1, q2] at q
        exact m_gh (by decide) q5 q6 q7 q
      · cases e
    · split at e
      · next K k1 e1 =>
        exact ih (s := (s.1, s.2.1, K)) e hR hlo hρ ⟨gAddI_of I.1 e1, I.2⟩ C
      · cases e
    · split at e
      · next s' k1 e1 =>
        obtain ⟨F, B', q1, q2, q3, q4, q5, q6, q7⟩ := xRec_of gk tk I.1 I.2.1 e1
        have q := ih e hR hlo hρ ⟨B', q4, I.2.2.trans q3⟩ C
        rw [q1, q2] at q
        exact m_gh (by decide) q5 q6 q7 q
      · cases e
    · split at e
      next t k1 e1 =>
      split at e
      · next k2 e2 =>
        by_cases q : 0 ≤ zv ρ t
        · exact ih (s := (s.1, s.2.1, (t :: s.2.2.1, s.2.2.2))) e2 hR hlo hρ ⟨I.1.fact q, I.2⟩ C
        · exact ih (s := (s.1, s.2.1, (zpl (zsm (-1) t) (-1) :: s.2.2.1, s.2.2.2))) e hR hlo hρ ⟨I.1.fact (by rw [zpl_v, zsm_v]; omega), I.2⟩ C
      · cases e
    · split at e
      next d k1 e1 =>
      cases w : zcert s.2.2.1 d (zc (-1)) with
      | false => rw [w] at e; cases e
      | true =>
        have := zcert_of I.1.1 w
        rw [zc_v] at this
        exact absurd this (by decide)
    · exact (gNone_of I.1 e).elim
    · split at e
      · next K k1 e1 =>
        exact ih (s := (s.1, s.2.1, K)) e hR hlo hρ ⟨gAdd_of I.1 e1, I.2⟩ C
      · cases e
    · split at e
      · next K k1 e1 =>
        obtain ⟨ρ', a, b⟩ := gh0_of I.1 e1
        have q := gh0_st (l := s.1) (S := s.2.1) (fun v hv => by
          unfold zfrS
          rw [hv, Bool.and_eq_false_iff]
          exact Or.inr rfl) a
        have al : ∀ v, v < lo → ρ' v = ρ v := fun v hv => a v (by
          unfold zfrS
          rw [Bool.and_eq_false_iff]
          left
          cases w : Nat.ble lo v with
          | false => rfl
          | true => have := bleN w; omega)
        have r := ih (s := (s.1, s.2.1, K)) e hR hlo (fun v hv => (al v (by omega)).trans (hρ v hv)) ⟨b, I.2⟩ (C.to (Nat.le_refl _) al)
        replace r : MW (kT m) (Qct G T c ρs h0) mb.1 mb.2 (pcA (pgT m) i) (zL ρ' s.1) (zSk ρ' s.2.1) h := r
        rw [q.1, q.2] at r
        exact r
      · cases e
end LA
