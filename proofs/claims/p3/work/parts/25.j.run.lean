/-! calls go well; the run of a script -/
section JC
variable {G : ZG} {T : ZTab} {M : List ZR} {P : MP} {K : mK} {Q : MO → MH → Prop} {h0 : MH} {mc ms : Nat} {lo n i : Nat} {s s' : ZSt} {ρ : Nat → Int} {h : MH} {ss : List (Nat × ZSt)} {k k' : List Nat} {rest as : ZSs}
theorem zbad_of {c : ZCt} {t : ZT} (e : (!(zoc (cBad c) t)) = true) {ρ1 ρ2 : Nat → Int} (h : ∀ v, zmem v (cAv c) = true ∨ zmem v (cOv c) = true → ρ1 v = ρ2 v) : zv ρ1 t = zv ρ2 t := zoc_no (notB e) fun v hv => h v (by
  have : (zmem v (cAv c) || zmem v (cOv c)) = true := by
    cases w : (zmem v (cAv c) || zmem v (cOv c)) with
    | true => rfl
    | false =>
      unfold cBad at hv
      rw [w] at hv
      cases hv
  exact Bool.or_eq_true _ _ ▸ this)
theorem xCon2_of (gk : GOk G) {c : ZCt} (ct : CtOk G T c) {q : MR} (hq : mtab[c.1]? = some q) (I : Inv G T M h0 ρ h s) (hrest : ∀ q ∈ rest, q ∈ s.2.1) {σ : List (Nat × ZT)} {es : List Nat} (e : xCon2 G T M lo i c s as rest σ es k = some (ss, k')) (kk : ∀ q ∈ ss, Go G T M P K Q mc ms h0 lo ρ q.1 q.2) : ∃ Q' : MO → MH → Prop, MCal q.1 q.2.1 (kMc c) (kMs c) (zSk ρ as) h Q' ∧ ∀ (o : MO) (h' : MH), Q' o h' → (o.1 = 0 → MW K Q mc ms (pcA P (i + 1)) (zL ρ s.1) (zSk ρ rest) h') ∧ (o.1 = 1 → MW K Q mc ms (pcA P (i + 1)) (zL ρ s.1) (o.2 :: zSk ρ rest) h') := by
  unfold xCon2 at e
  cases e1 : (zarg σ (kA c) as && zent σ s.2.2.2.2.1 (kE c) es) with
  | false => rw [e1] at e; cases e
  | true =>
    rw [e1, cond_true] at e
    obtain ⟨a1, a2⟩ := andB e1
    split at e
    next cs k1 e2 =>
    cases e3 : zcerts s.2.2.1 cs ((kFs c).map (zS σ)) with
    | false => rw [e3] at e; cases e
    | true =>
      rw [e3, cond_true] at e
      split at e
      next vs k2 e4 =>
      split at e
      next ls k6 e10 =>
      cases e5 : (zreqV s.2.2.2.2.2 (kVs c) vs && (zsubM (kMd c) M && jV σ s.2.2.2.2.2 ((kLV c).map fun b => (0, b)) ls)) with
      | false => rw [e5] at e; cases e
      | true =>
        rw [e5, cond_true] at e
        obtain ⟨a3, a4⟩ := andB e5
        obtain ⟨a4, a5⟩ := andB a4
        split at e
        next ns k3 e6 =>
        cases e7 : ((kLE c).all (fun b => (zzip (cOv c) (ns.map zx) ++ σ).all fun q => !(zoc (fun v => zmem v b.1) q.2)) && (znod ns && (Nat.beq ns.length (cOv c).length && (ns.all (fun n => Nat.ble lo n) && (!(zocL (fun v => zmem v ns) s.1) && (!(zocS (fun v => zmem v ns) s.2.1) && (!(zocK (fun v => zmem v ns) s.2.2) && (cAv c).all (fun v => !(zoc (fun v => zmem v ns) (zslk σ v)))))))))) with
        | false => rw [e7] at e; cases e
        | true =>
          rw [e7, cond_true] at e
          split at e
          case h_2 => cases e
          next na k4 =>
          split at e
          case h_2 => cases e
          next R k5 e8 =>
          cases e
          obtain ⟨b0, b1⟩ := andB e7
          obtain ⟨b1, b2⟩ := andB b1
          obtain ⟨b2, b3⟩ := andB b2
          obtain ⟨b3, b4⟩ := andB b3
          obtain ⟨b4, b5⟩ := andB b4
          obtain ⟨b5, b6⟩ := andB b5
          obtain ⟨b6, b7⟩ := andB b6
          have b2 := beqN b2
          obtain ⟨wf, cm⟩ := ct
          obtain ⟨w1, w2⟩ := andB wf
          obtain ⟨w2, w3⟩ := andB w2
          obtain ⟨w3, w4⟩ := andB w3
          obtain ⟨w4, w5⟩ := andB w4
          obtain ⟨w5, w7⟩ := andB w5
          obtain ⟨w5, w6⟩ := andB w5
          have rF : ∀ f ∈ kFs c, 0 ≤ zv (zσ σ ρ) f := fun f hf => by
            have := zcerts_of I.1.1 e3 (zS σ f) (List.mem_map.mpr ⟨f, hf, rfl⟩)
            rw [zS_v] at this
            exact this
          have hM := cm q hq (zσ σ ρ) h I.2.1 (zent_of I.1.2.2.1 a2) rF (zreqV_of I.1.2.2.2 a3) (fun b hb => jV_of I.1.2.2.2 a5 (0, b) (List.mem_map.mpr ⟨b, hb, rfl⟩))
          rw [zarg_of a1] at hM
          refine ⟨_, hM, fun o h' hQ => ?_⟩
          obtain ⟨g, g1, g2, g3, g4, g5, g6, g7, g8, g9⟩ := hQ
          -- the new valuation
          let ρ' := zupl ρ ns ((cOv c).map g)
          let τ := zzip (cOv c) (ns.map zx) ++ σ
          have off : ∀ v, zmem v ns = false → ρ' v = ρ v := fun v hv => zupl_no hv
          have val : ∀ v, zmem v (cAv c) = true ∨ zmem v (cOv c) = true → zσ τ ρ' v = g v := fun v hv => by
            cases ho : zmem v (cOv c) with
            | true => exact zupl_at b1 b2.symm ho
            | false =>
              have ha : zmem v (cAv c) = true := by
                rcases hv with z | z
                · exact z
                · rw [ho] at z; cases z
              show zv ρ' (zslk τ v) = g v
              rw [zslk_app ho, zoc_no (notB (List.all_eq_true.mp b7 v (zmem_of ha))) off, g1 v ha]
              rfl
          have tv : ∀ {t : ZT}, (!(zoc (cBad c) t)) = true → zv ρ' (zS τ t) = zv g t := fun {t} ht => by
            rw [zS_v]
            exact zbad_of ht val
          have xv : ∀ {x : Nat}, x ∈ cOv c → zv ρ' (zS τ (zx x)) = g x := fun {x} hx => by
            rw [zS_v, zx_v]
            exact val x (Or.inr (mem_zmem hx))
          have B := I.1.cg (f := fun v => zmem v ns) (notB b6) off
          have hn : T.1 ≤ h.1 := I.2.1.1.1
          have I' : Inv G T M h0 ρ' h' (zaft G T c s rest ns τ R) := by
            refine ⟨⟨fun f hf => ?_, fun d hd => ?_, fun a ha => ?_, fun d hd => ?_⟩, g3, I.2.2.trans (g4.mono a4)⟩
            · rcases List.mem_append.mp hf with z | z
              · obtain ⟨t, m, rfl⟩ := List.mem_map.mp z
                rw [tv (List.all_eq_true.mp w2 t m)]
                exact g6 t m
              · exact B.1 f z
            · rcases List.mem_append.mp hd with z | z
              · obtain ⟨t, m, rfl⟩ := List.mem_map.mp z
                obtain ⟨f, m2, p⟩ := g7 t m
                refine ⟨zS τ f, List.mem_map.mpr ⟨f, m2, rfl⟩, ?_⟩
                rw [tv (List.all_eq_true.mp (List.all_eq_true.mp w3 t m) f m2)]
                exact p
              · exact B.2.1 d z
            · rcases List.mem_append.mp ha with z | z
              · obtain ⟨x, m, rfl⟩ := List.mem_map.mp z
                obtain ⟨u1, u2⟩ := andB (List.all_eq_true.mp w1 x m)
                unfold zA
                show gz h' (zv ρ' (zS τ x.1)) (zv ρ' (zS τ x.2.1)) = zv ρ' (zS τ (zx x.2.2))
                rw [tv u1, tv u2, xv (List.mem_append_right _ (List.mem_map.mpr ⟨x, m, rfl⟩))]
                exact g5 x m
              · rcases List.mem_append.mp z with z | z
                · exact zkr_of g4 hn B.1 B.2.2.1 e8 a z
                · obtain ⟨m1, m2⟩ := List.mem_filter.mp z
                  exact zatk_of g4 hn m2 (B.2.2.1 a m1)
            · rcases List.mem_append.mp hd with z | z
              · obtain ⟨x, m, rfl⟩ := List.mem_map.mp z
                have p := bltN (List.all_eq_true.mp w6 x m)
                match x, p, m with
                | x + 1, _, m => exact g8 _ m
              · rcases List.mem_append.mp z with z | z
                · obtain ⟨b, mb, rfl⟩ := List.mem_map.mp z
                  refine zSB_to (b := b) ?_ (List.all_eq_true.mp b0 b mb)
                  refine zB_cg (f := cBad c) (notB (List.all_eq_true.mp w7 b mb)) (fun v hv => val v ?_) (g9 b mb)
                  have : (zmem v (cAv c) || zmem v (cOv c)) = true := by
                    cases w : (zmem v (cAv c) || zmem v (cOv c)) with
                    | true => rfl
                    | false =>
                      unfold cBad at hv
                      rw [w] at hv
                      cases hv
                  exact Bool.or_eq_true _ _ ▸ this
                · obtain ⟨m1, m2⟩ := List.mem_filter.mp z
                  exact zCl_kp gk g4 hn m2 (B.2.2.2 d m1)
          have go := kk _ List.mem_cons_self ρ' h' (fun v hv => off v (by
            cases w : zmem v ns with
            | false => rfl
            | true => have := bleN (List.all_eq_true.mp b3 v (zmem_of w)); omega)) I'
          have eL : zL ρ' (zaft G T c s rest ns τ R).1 = zL ρ s.1 := zL_cg (f := fun v => zmem v ns) (notB b4) off
          have er : zSk ρ' rest = zSk ρ rest := by
            unfold zSk
            refine List.map_congr_left fun q hq => ?_
            rw [zoc_no (anyF (notB b5) q (hrest q hq)) off]
          replace go : MW K Q mc ms (pcA P (i + 1)) (zL ρ' (zaft G T c s rest ns τ R).1) (zSk ρ' (zaft G T c s rest ns τ R).2.1) h' := go
          rw [eL] at go
          have ov : ∀ {q : Nat × Nat}, kRs c = some q → q.2 ∈ cOv c := fun {q} hq => by
            unfold cOv
            rw [hq]
            exact List.mem_append_left _ List.mem_cons_self
          have stk : zSk ρ' (zaft G T c s rest ns τ R).2.1 = (match kRs c with
              | some q => (q.1, g q.2) :: zSk ρ rest
              | none => zSk ρ rest) := by
            unfold zaft
            cases w : kRs c with
            | none => exact er
            | some q =>
              show (q.1, zv ρ' (zS τ (zx q.2))) :: zSk ρ' rest = (q.1, g q.2) :: zSk ρ rest
              rw [er, xv (ov w)]
          rw [stk] at go
          cases w : kRs c with
          | none =>
            rw [w] at g2 go
            have g2 : o.1 = 0 := g2
            exact ⟨fun _ => go, fun z => by omega⟩
          | some q =>
            rw [w] at g2 go
            have g2 : o.1 = 1 ∧ o.2 = (q.1, g q.2) := g2
            refine ⟨fun z => by omega, fun _ => ?_⟩
            rw [g2.2]
            exact go
end JC
/-- a call -/
def xCall (G : ZG) (T : ZTab) (M : List ZR) (CT : Nat → Option ZCt) (m lo i op a : Nat) (s : ZSt) (k : List Nat) : ZO := match k with
  | j :: k => (match CT j, mtab[a]? with
    | some c, some q => bif Nat.beq c.1 a && fitB (kT m) q.1 then (bif Nat.beq op 67 then (match zspl (q.2.2.2.1 + 1) s.2.1 with
        | some (as, rest) => (match as with
          | r :: _ => bif Nat.beq r.1 2 && (Nat.beq q.2.2.2.2 0 && Nat.ble (zcats rest) 8) then (match zcl T s.2.2.1 s.2.2.2.2.1 (16 + q.2.2.1) r.2 k with
            | some (_, k) => xCon G T M lo i c s as rest k
            | none => none) else none
          | [] => none)
        | none => none) else (match zspl q.2.2.2.1 s.2.1 with
        | some (as, rest) => bif Nat.beq op 68 && (Nat.beq q.2.2.2.2 1 && (true && Nat.ble (zcats rest) 8)) then xCon G T M lo i c s as rest k else none
        | none => none)) else none
    | _, _ => none)
  | [] => none
section JD
variable {G : ZG} {T : ZTab} {M : List ZR} {Q : MO → MH → Prop} {h0 : MH} {mc ms : Nat} {m lo n i : Nat} {s s' : ZSt} {ρ : Nat → Int} {h : MH} {ss : List (Nat × ZSt)} {k k' : List Nat} {CT : Nat → Option ZCt}
theorem xCall_of (gk : GOk G) (tk : TabOk T) (hct : ∀ j c, CT j = some c → CtOk G T c) (hm : m < 821) {mi : MI} (hi : (pgT m).1[i]? = some mi) (ho : mi.2.1 = 67 ∨ mi.2.1 = 68) (I : Inv G T M h0 ρ h s) (e : xCall G T M CT m lo i mi.2.1 mi.2.2.2.1 s k = some (ss, k')) (hb : (zbc CT k).1 ≤ mc ∧ (zbc CT k).2 ≤ ms) (kk : ∀ q ∈ ss, Go G T M (pgT m) (kT m) Q (mc - (zbc CT k).1) (ms - (zbc CT k).2) h0 lo ρ q.1 q.2) : MW (kT m) Q mc ms (pcA (pgT m) i) (zL ρ s.1) (zSk ρ s.2.1) h := by
  obtain ⟨pc, op, z, a, b, c'⟩ := mi
  replace e : xCall G T M CT m lo i op a s k = some (ss, k') := e
  replace ho : op = 67 ∨ op = 68 := ho
  unfold xCall at e
  split at e
  · next j k1 =>
    split at e
    · next c q hc hq =>
      cases e2 : (Nat.beq c.1 a && fitB (kT m) q.1) with
      | false => rw [e2] at e; cases e
      | true =>
        rw [e2, cond_true] at e
        obtain ⟨c1, c2⟩ := andB e2
        have c1 := beqN c1
        have ct := hct j c hc
        rw [zbc_at hc] at hb kk
        rw [← c1] at hq
        cases e3 : Nat.beq op 67 with
        | true =>
          rw [e3, cond_true] at e
          have e3 := beqN e3
          subst e3
          split at e
          · next as rest e4 =>
            obtain ⟨s1, s2⟩ := zspl_of e4
            split at e
            · next r as' =>
              cases e5 : (Nat.beq r.1 2 && (Nat.beq q.2.2.2.2 0 && Nat.ble (zcats rest) 8)) with
              | false => rw [e5] at e; cases e
              | true =>
                rw [e5, cond_true] at e
                obtain ⟨d1, d2⟩ := andB e5
                obtain ⟨d2, d3⟩ := andB d2
                have d1 := beqN d1
                obtain ⟨r1, r2⟩ := r
                have d1 : r1 = 2 := d1
                subst d1
                split at e
                · next p k8 e6 =>
                  obtain ⟨p1, p2⟩ := p
                  obtain ⟨z1, z2, z3, _⟩ := zcl_of tk I.1.1 I.1.2.2.1 I.2.1 e6
                  unfold xCon at e
                  split at e
                  next es k2 e7 =>
                  split at e
                  next gs k9 e9 =>
                  obtain ⟨Q', hM, kq⟩ := xCon2_of gk ct hq I (fun q hq => by rw [s1]; exact List.mem_append_right _ hq) e kk
                  exact z_callV hi hm (c1 ▸ hq) (beqN d2) c2 (as := as') (rest := rest) s1 hb.1 hb.2 (by
                    have : as'.length + 1 = q.2.2.2.1 + 1 := s2
                    omega) (bleN d3) ⟨z1, z2, z3⟩ hM kq
                · cases e
            · cases e
          · cases e
        | false =>
          rw [e3, cond_false] at e
          have e3 := beqN_no e3
          have o68 : op = 68 := by omega
          subst o68
          split at e
          · next as rest e4 =>
            obtain ⟨s1, s2⟩ := zspl_of e4
            cases e5 : (Nat.beq 68 68 && (Nat.beq q.2.2.2.2 1 && (true && Nat.ble (zcats rest) 8))) with
            | false => rw [e5] at e; cases e
            | true =>
              rw [e5, cond_true] at e
              obtain ⟨_, d2⟩ := andB e5
              obtain ⟨d2, d3⟩ := andB d2
              obtain ⟨d3, d4⟩ := andB d3
              unfold xCon at e
              split at e
              next es k2 e7 =>
              split at e
              next gs k9 e9 =>
              obtain ⟨Q', hM, kq⟩ := xCon2_of gk ct hq I (fun q hq => by rw [s1]; exact List.mem_append_right _ hq) e kk
              exact z_callS hi hm (c1 ▸ hq) (beqN d2) c2 s1 hb.1 hb.2 s2 (bleN d4) hM kq
          · cases e
    · cases e
  · cases e
end JD
