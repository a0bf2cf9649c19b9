/-! contracts and calls; places that are come to from several sides -/
/-- a contract: method, parameters, what lies where at first, facts and clauses wanted, what may change, the answer, what lies where then, facts, alternatives, clauses then -/
abbrev ZCt : Type := Nat × List (Nat × ZT) × List (ZT × ZT × Nat) × List ZT × List Nat × List ZR × Option (Nat × Nat) × List (ZT × ZT × Nat) × List ZT × List (List ZT) × List Nat × List ZB × List ZB × Nat × Nat × List Nat
def kA (c : ZCt) : List (Nat × ZT) := c.2.1
def kE (c : ZCt) : List (ZT × ZT × Nat) := c.2.2.1
def kFs (c : ZCt) : List ZT := c.2.2.2.1
def kVs (c : ZCt) : List Nat := c.2.2.2.2.1
def kMd (c : ZCt) : List ZR := c.2.2.2.2.2.1
def kRs (c : ZCt) : Option (Nat × Nat) := c.2.2.2.2.2.2.1
def kO (c : ZCt) : List (ZT × ZT × Nat) := c.2.2.2.2.2.2.2.1
def kEF (c : ZCt) : List ZT := c.2.2.2.2.2.2.2.2.1
def kED (c : ZCt) : List (List ZT) := c.2.2.2.2.2.2.2.2.2.1
def kEV (c : ZCt) : List Nat := c.2.2.2.2.2.2.2.2.2.2.1
/-- clauses with the contract's own variables, before and behind; cells and elements that are made -/
def kLV (c : ZCt) : List ZB := c.2.2.2.2.2.2.2.2.2.2.2.1
def kLE (c : ZCt) : List ZB := c.2.2.2.2.2.2.2.2.2.2.2.2.1
def kMc (c : ZCt) : Nat := c.2.2.2.2.2.2.2.2.2.2.2.2.2.1
def kMs (c : ZCt) : Nat := c.2.2.2.2.2.2.2.2.2.2.2.2.2.2.1
/-- numbers that the caller chooses -/
def kGh (c : ZCt) : List Nat := c.2.2.2.2.2.2.2.2.2.2.2.2.2.2.2
def cAv (c : ZCt) : List Nat := (kA c).flatMap (fun q => q.2.2.map fun p => p.1) ++ ((kE c).map (fun e => e.2.2) ++ kGh c)
def cOv (c : ZCt) : List Nat := (match kRs c with
  | some q => [q.2]
  | none => []) ++ (kO c).map fun e => e.2.2
def cBad (c : ZCt) (v : Nat) : Bool := !(zmem v (cAv c) || zmem v (cOv c))
def ctWf (c : ZCt) : Bool := (kO c).all (fun e => !(zoc (cBad c) e.1) && !(zoc (cBad c) e.2.1)) && ((kEF c).all (fun t => !(zoc (cBad c) t)) && ((kED c).all (fun d => d.all fun t => !(zoc (cBad c) t)) && ((cAv c).all (fun v => !(zmem v (cOv c))) && (((kVs c).all (fun v => Nat.blt 0 v) && (kEV c).all (fun v => Nat.blt 0 v)) && (kLE c).all fun b => !(zocB (cBad c) b)))))
def Qct (G : ZG) (T : ZTab) (c : ZCt) (ρ : Nat → Int) (h : MH) : MO → MH → Prop := fun o h' => ∃ ρ' : Nat → Int, (∀ v, zmem v (cAv c) = true → ρ' v = ρ v) ∧ (match kRs c with
  | none => o.1 = 0
  | some q => o.1 = 1 ∧ o.2 = (q.1, ρ' q.2)) ∧ StrZ T h' ∧ Frm (kMd c) h h' ∧ (∀ e ∈ kO c, gz h' (zv ρ' e.1) (zv ρ' e.2.1) = ρ' e.2.2) ∧ (∀ f ∈ kEF c, 0 ≤ zv ρ' f) ∧ (∀ d ∈ kED c, ∃ f ∈ d, 0 ≤ zv ρ' f) ∧ (∀ k ∈ kEV c, zGl G k h') ∧ ∀ b ∈ kLE c, zB ρ' h' b
def CtOk (G : ZG) (T : ZTab) (c : ZCt) : Prop := ctWf c = true ∧ ∀ q, mtab[c.1]? = some q → ∀ (ρ : Nat → Int) (h : MH), StrZ T h → (∀ e ∈ kE c, gz h (zv ρ e.1) (zv ρ e.2.1) = ρ e.2.2) → (∀ f ∈ kFs c, 0 ≤ zv ρ f) → (∀ k ∈ kVs c, zGl G k h) → (∀ b ∈ kLV c, zB ρ h b) → MCal q.1 q.2.1 (kMc c) (kMs c) ((kA c).map fun q => (q.1, zv ρ q.2)) h (Qct G T c ρ h)
/-- the room that a call takes -/
def zbc (CT : Nat → Option ZCt) (k : List Nat) : Nat × Nat := match k with
  | j :: _ => (match CT j with
    | some c => (kMc c, kMs c)
    | none => (0, 0))
  | [] => (0, 0)
theorem zbc_at {CT : Nat → Option ZCt} {j : Nat} {k : List Nat} {c : ZCt} (h : CT j = some c) : zbc CT (j :: k) = (kMc c, kMs c) := by
  show (match CT j with
    | some c => (kMc c, kMs c)
    | none => (0, 0)) = _
  rw [h]
set_option maxRecDepth 100000 in
theorem mtab_len : mtab.length = 821 := by decide +kernel
theorem mtab_lt {a : Nat} {q : MR} (h : mtab[a]? = some q) : a < 821 := by
  have := (List.getElem?_eq_some_iff.mp h).1
  rw [mtab_len] at this
  exact this
/-- the arguments, in their order, and what lies below -/
def zspl : Nat → ZSs → Option (ZSs × ZSs)
  | 0, S => some ([], S)
  | _ + 1, [] => none
  | n + 1, v :: S => match zspl n S with
    | some (a, r) => some (a ++ [v], r)
    | none => none
theorem zspl_of : ∀ {n : Nat} {S as r : ZSs}, zspl n S = some (as, r) → S = as.reverse ++ r ∧ as.length = n
  | 0, S, as, r, h => by cases h; exact ⟨rfl, rfl⟩
  | _ + 1, [], as, r, h => by cases h
  | n + 1, v :: S, as, r, h => by
    unfold zspl at h
    split at h
    · next a r' e =>
      cases h
      obtain ⟨h1, h2⟩ := zspl_of e
      refine ⟨?_, by rw [List.length_append, h2]; rfl⟩
      rw [List.reverse_append, h1]
      rfl
    · cases h
section CA
variable {mc ms mc' ms' : Nat} {m i pc : Nat} {zz : Int} {a bb cc : Nat} {L : List (Nat × MV)} {h : MH} {Q Q' : MO → MH → Prop} {ρ : Nat → Int}
/-- a method of an object is called -/
theorem z_callV (hi : (pgT m).1[i]? = some (pc, 67, zz, a, bb, cc)) (hm : m < 821) {q : MR} (hq : mtab[a]? = some q) (hv : q.2.2.2.2 = 0) (hf : fitB (kT m) q.1 = true) {S as rest : ZSs} {r : ZT} (hS : S = ((2, r) :: as).reverse ++ rest) (hmc : mc' ≤ mc) (hms : ms' ≤ ms) (hn : as.length = q.2.2.2.1) (hw : zcats rest ≤ 8) (hr : 0 ≤ zv ρ r ∧ (zv ρ r).toNat < h.1 ∧ (h.2 (zv ρ r).toNat).1 = 16 + q.2.2.1) (hM : MCal q.1 q.2.1 mc' ms' (zSk ρ ((2, r) :: as)) h Q')
    (kk : ∀ (o : MO) (h' : MH), Q' o h' → (o.1 = 0 → MW (kT m) Q (mc - mc') (ms - ms') (pcA (pgT m) (i + 1)) L (zSk ρ rest) h') ∧ (o.1 = 1 → MW (kT m) Q (mc - mc') (ms - ms') (pcA (pgT m) (i + 1)) L (o.2 :: zSk ρ rest) h')) : MW (kT m) Q mc ms (pcA (pgT m) i) L (zSk ρ S) h := by
  have ok := okP_at (pgT_ok0 m hm) hi
  have hp : pcA (pgT m) i = pc := by
    unfold pcA
    rw [hi]
  obtain ⟨f1, f2⟩ := fitB_of hf
  have mf := mtab_ok q (List.mem_of_getElem? hq)
  obtain ⟨g1, g2, g3, g4, g5, g6⟩ := mf
  rw [hp]
  have o1 := and2 ok.1
  have d := okD_of o1.1
  obtain ⟨r', hr', hl⟩ := MT_ok (ownT m) (zz.toNat, a) (List.contains_iff_mem.mp o1.2)
  have hr' : mtab[a]? = some r' := hr'
  rw [hq] at hr'
  cases hr'
  rw [← ok.2] at hl
  obtain ⟨s1, s2, T', N', s3⟩ := g6 hv
  have d2 : pc + 3 = pcA (pgT m) (i + 1) := d.2
  rw [← d2] at kk
  have eS : zSk ρ S = (zSk ρ as).reverse ++ (2, zv ρ r) :: zSk ρ rest := by
    rw [hS]
    unfold zSk
    rw [List.map_append, List.map_reverse, List.map_cons, List.reverse_cons, List.append_assoc]
    rfl
  have hn' : q.2.2.2.1 = (zSk ρ as).length := by
    unfold zSk
    rw [List.length_map, hn]
  exact m_invokevirtual d.1 f2 g1 s3 hr.1 hr.2.1 hr.2.2 ⟨hl, s1, s2⟩ ⟨rfl, g4.1, g4.2.1, by rw [← hn']; exact g4.2.2⟩ f1 (by rw [zcats_of]; exact hw) eS hmc hms hM kk
/-- a method of the class alone -/
theorem z_callS (hi : (pgT m).1[i]? = some (pc, 68, zz, a, bb, cc)) (hm : m < 821) {q : MR} (hq : mtab[a]? = some q) (hv : q.2.2.2.2 = 1) (hf : fitB (kT m) q.1 = true) {S as rest : ZSs} (hS : S = as.reverse ++ rest) (hmc : mc' ≤ mc) (hms : ms' ≤ ms) (hn : as.length = q.2.2.2.1) (hw : zcats rest ≤ 8) (hM : MCal q.1 q.2.1 mc' ms' (zSk ρ as) h Q')
    (kk : ∀ (o : MO) (h' : MH), Q' o h' → (o.1 = 0 → MW (kT m) Q (mc - mc') (ms - ms') (pcA (pgT m) (i + 1)) L (zSk ρ rest) h') ∧ (o.1 = 1 → MW (kT m) Q (mc - mc') (ms - ms') (pcA (pgT m) (i + 1)) L (o.2 :: zSk ρ rest) h')) : MW (kT m) Q mc ms (pcA (pgT m) i) L (zSk ρ S) h := by
  have ok := okP_at (pgT_ok0 m hm) hi
  have hp : pcA (pgT m) i = pc := by
    unfold pcA
    rw [hi]
  obtain ⟨f1, f2⟩ := fitB_of hf
  have mf := mtab_ok q (List.mem_of_getElem? hq)
  obtain ⟨g1, g2, g3, g4, g5, g6⟩ := mf
  rw [hp]
  have o1 := and2 ok.1
  have d := okD_of o1.1
  obtain ⟨r', hr', hl⟩ := MT_ok (ownT m) (zz.toNat, a) (List.contains_iff_mem.mp o1.2)
  have hr' : mtab[a]? = some r' := hr'
  rw [hq] at hr'
  cases hr'
  rw [← ok.2] at hl
  have d2 : pc + 3 = pcA (pgT m) (i + 1) := d.2
  rw [← d2] at kk
  have eS : zSk ρ S = (zSk ρ as).reverse ++ zSk ρ rest := by
    rw [hS]
    unfold zSk
    rw [List.map_append, List.map_reverse]
  have hn' : q.2.2.2.1 = (zSk ρ as).length := by
    unfold zSk
    rw [List.length_map, hn]
  exact m_invokestaticX d.1 f2 g1 ⟨hl, g5 hv⟩ ⟨g4.1, g4.2.1, by rw [← hn']; exact g4.2.2⟩ f1 (by rw [zcats_of]; exact hw) eS hmc hms hM kk
end CA
def zas : List (Nat × ZT) → ZSs → List (Nat × ZT)
  | p :: r, q :: s => match p.2.1, p.2.2 with
    | .ofNat 0, [(v, _)] => (v, q.2) :: zas r s
    | _, _ => zas r s
  | _, _ => []
def zen (A : List ZA) : List (ZT × ZT × Nat) → List Nat → List (Nat × ZT)
  | e :: r, a :: s => match zget A a with
    | some q => (e.2.2, q.2.2) :: zen A r s
    | none => zen A r s
  | _, _ => []
def zarg (σ : List (Nat × ZT)) : List (Nat × ZT) → ZSs → Bool
  | [], [] => true
  | p :: r, q :: s => Nat.beq p.1 q.1 && (zeq (zS σ p.2) q.2 && zarg σ r s)
  | _, _ => false
theorem zarg_of {σ : List (Nat × ZT)} {ρ : Nat → Int} : ∀ {l : List (Nat × ZT)} {S : ZSs}, zarg σ l S = true → (l.map fun q => (q.1, zv (zσ σ ρ) q.2)) = zSk ρ S
  | [], [], _ => rfl
  | p :: r, q :: s, h => by
    obtain ⟨h1, h2⟩ := andB h
    obtain ⟨h2, h3⟩ := andB h2
    show (p.1, zv (zσ σ ρ) p.2) :: _ = (q.1, zv ρ q.2) :: _
    rw [beqN h1, ← zeq_of h2, zS_v, zarg_of h3]
    rfl
  | [], _ :: _, h => by cases h
  | _ :: _, [], h => by cases h
def zent (σ : List (Nat × ZT)) (A : List ZA) : List (ZT × ZT × Nat) → List Nat → Bool
  | [], _ => true
  | e :: r, a :: s => (match zget A a with
    | some q => zeq q.1 (zS σ e.1) && (zeq q.2.1 (zS σ e.2.1) && zeq q.2.2 (zslk σ e.2.2))
    | none => false) && zent σ A r s
  | _ :: _, [] => false
theorem zent_of {σ : List (Nat × ZT)} {ρ : Nat → Int} {h : MH} {A : List ZA} (hA : ∀ a ∈ A, zA ρ h a) : ∀ {l : List (ZT × ZT × Nat)} {ns : List Nat}, zent σ A l ns = true → ∀ e ∈ l, gz h (zv (zσ σ ρ) e.1) (zv (zσ σ ρ) e.2.1) = zσ σ ρ e.2.2
  | [], _, _, e, he => absurd he List.not_mem_nil
  | x :: r, a :: s, hh, e, he => by
    obtain ⟨h1, h2⟩ := andB hh
    rcases List.mem_cons.mp he with w | w
    · subst w
      split at h1
      · next q hq =>
        obtain ⟨c1, c2⟩ := andB h1
        obtain ⟨c2, c3⟩ := andB c2
        have m := hA q (zget_mem hq)
        unfold zA at m
        rw [zeq_of c1, zeq_of c2, zeq_of c3, zS_v, zS_v] at m
        exact m
      · cases h1
    · exact zent_of hA h2 e w
  | _ :: _, [], h, _, _ => by cases h
def zreqV (V : List ZC) : List Nat → List Nat → Bool
  | [], _ => true
  | k :: r, a :: s => (match zget V a with
    | some c => Nat.beq c.1 k && Nat.blt 0 k
    | none => false) && zreqV V r s
  | _ :: _, [] => false
theorem zreqV_of {G : ZG} {ρ : Nat → Int} {h : MH} {V : List ZC} (hV : ∀ c ∈ V, zCl G ρ h c) : ∀ {l ns : List Nat}, zreqV V l ns = true → ∀ k ∈ l, zGl G k h
  | [], _, _, k, hk => absurd hk List.not_mem_nil
  | x :: r, a :: s, hh, k, hk => by
    obtain ⟨h1, h2⟩ := andB hh
    rcases List.mem_cons.mp hk with w | w
    · subst w
      split at h1
      · next c hc =>
        obtain ⟨c1, c2⟩ := andB h1
        have m := hV c (zget_mem hc)
        have c1 := beqN c1
        have c2 := bltN c2
        obtain ⟨n, b⟩ := c
        have c1 : n = k := c1
        subst c1
        match n, c2, m with
        | n + 1, _, m => exact m
      · cases h1
    · exact zreqV_of hV h2 k w
  | _ :: _, [], h, _, _ => by cases h
/-- an atom that a change within M does not touch -/
def zatk (T : ZTab) (M : List ZR) (a : ZA) : Bool := match a.1.2, a.1.1 with
  | [], .ofNat c => Nat.blt c T.1 && M.all fun m => zdis (zwR c c a.2.1) m
  | _, _ => false
theorem zatk_of {T : ZTab} {M : List ZR} {a : ZA} {ρ : Nat → Int} {h h' : MH} (F : Frm M h h') (hn : T.1 ≤ h.1) (e : zatk T M a = true) (k : zA ρ h a) : zA ρ h' a := by
  unfold zatk at e
  split at e
  · next c e1 e2 =>
    obtain ⟨h1, h2⟩ := andB e
    have h1 := bltN h1
    have v : zv ρ a.1 = (c : Int) := by
      unfold zv
      rw [e1, e2]
      exact Int.add_zero _
    unfold zA
    rw [F.2.2 _ _ fun m hm => zdis_of (List.all_eq_true.mp h2 m hm) (zwR_of (by omega) (by omega))]
    exact k
  · cases e
/-- atoms of rows that lie between two numbers -/
def zkr (T : ZTab) (M : List ZR) (F : List ZT) (A : List ZA) : Nat → List Nat → Option (List ZA × List Nat)
  | 0, k => some ([], k)
  | n + 1, a :: c1 :: c2 :: k => (match zget A a with
    | some q => (match rdCs 2 k with
      | (cs, k) => bif zcerts F cs [zpl q.1 (-(Int.ofNat c1)), bif Nat.beq c2 0 then zpl q.1 (-(Int.ofNat c1)) else zsb (zc (Int.ofNat c2)) q.1] && M.all fun m => zdis (zwR c1 c2 q.2.1) m then (match zkr T M F A n k with
        | some (l, k) => some (q :: l, k)
        | none => none) else none)
    | none => none)
  | _ + 1, _ => none
theorem zkr_of {T : ZTab} {M : List ZR} {F : List ZT} {A : List ZA} {ρ : Nat → Int} {h h' : MH} (Fr : Frm M h h') (hn : T.1 ≤ h.1) (hF : ∀ f ∈ F, 0 ≤ zv ρ f) (hA : ∀ a ∈ A, zA ρ h a) : ∀ {n : Nat} {k k' : List Nat} {l : List ZA}, zkr T M F A n k = some (l, k') → ∀ a ∈ l, zA ρ h' a
  | 0, k, k', l, e, a, ha => by cases e; exact absurd ha List.not_mem_nil
  | n + 1, b :: c1 :: c2 :: k, k', l, e, a, ha => by
    unfold zkr at e
    split at e
    · next q hq =>
      split at e
      next cs k1 e1 =>
      cases e2 : (zcerts F cs [zpl q.1 (-(Int.ofNat c1)), bif Nat.beq c2 0 then zpl q.1 (-(Int.ofNat c1)) else zsb (zc (Int.ofNat c2)) q.1] && M.all fun m => zdis (zwR c1 c2 q.2.1) m) with
      | false => rw [e2] at e; cases e
      | true =>
        rw [e2, cond_true] at e
        obtain ⟨u2, u3⟩ := andB e2
        have u2 := zcerts_of hF u2
        have g1 := u2 _ List.mem_cons_self
        have g2 := u2 _ (List.mem_cons_of_mem _ List.mem_cons_self)
        rw [zpl_v] at g1
        have g1 : 0 ≤ zv ρ q.1 + -(c1 : Int) := g1
        have g3 : c2 = 0 ∨ zv ρ q.1 ≤ (c2 : Int) := by
          cases w : Nat.beq c2 0 with
          | true => exact Or.inl (beqN w)
          | false =>
            rw [w, cond_false, zsb_v, zc_v] at g2
            have g2 : 0 ≤ (c2 : Int) - zv ρ q.1 := g2
            exact Or.inr (by omega)
        split at e
        · next l1 k2 e3 =>
          cases e
          rcases List.mem_cons.mp ha with z | z
          · subst z
            have B := hA _ (zget_mem hq)
            unfold zA at B ⊢
            rw [Fr.2.2 _ _ fun m hm => zdis_of (List.all_eq_true.mp u3 m hm) (zwR_of (by omega) g3)]
            exact B
          · exact zkr_of Fr hn hF hA e3 a z
        · cases e
    · cases e
  | n + 1, [], k', l, e, a, ha => by cases e
  | n + 1, [_], k', l, e, a, ha => by cases e
  | n + 1, [_, _], k', l, e, a, ha => by cases e
def zupl (ρ : Nat → Int) : List Nat → List Int → Nat → Int
  | n :: ns, z :: zs => zup (zupl ρ ns zs) n z
  | _, _ => ρ
def znod : List Nat → Bool
  | [] => true
  | n :: r => !(zmem n r) && znod r
theorem zupl_no {ρ : Nat → Int} : ∀ {ns : List Nat} {zs : List Int} {v : Nat}, zmem v ns = false → zupl ρ ns zs v = ρ v
  | [], _, v, _ => rfl
  | n :: ns, [], v, _ => rfl
  | n :: ns, z :: zs, v, h => by
    obtain ⟨h1, h2⟩ := orF h
    show zup (zupl ρ ns zs) n z v = ρ v
    rw [zup_no _ _ h1]
    exact zupl_no h2
/-- the place of what is called anew -/
theorem zupl_at {ρ g : Nat → Int} : ∀ {xs ns : List Nat} {σ : List (Nat × ZT)} {v : Nat}, znod ns = true → xs.length = ns.length → zmem v xs = true → zv (zupl ρ ns (xs.map g)) (zslk (zzip xs (ns.map zx) ++ σ) v) = g v
  | [], _, σ, v, _, _, h => by cases h
  | x :: xs, [], σ, v, _, hl, _ => by cases hl
  | x :: xs, n :: ns, σ, v, hn, hl, h => by
    obtain ⟨n1, n2⟩ := andB hn
    have n1 := notB n1
    show zv (zup (zupl ρ ns (xs.map g)) n (g x)) (bif Nat.beq x v then zx n else zslk (zzip xs (ns.map zx) ++ σ) v) = g v
    cases e : Nat.beq x v with
    | true =>
      show zv _ (zx n) = _
      rw [zxu, beqN e]
    | false =>
      show zv _ (zslk (zzip xs (ns.map zx) ++ σ) v) = _
      have hm : zmem v xs = true := by
        have : (Nat.beq x v || zmem v xs) = true := h
        rw [e] at this
        exact this
      rw [zoc_up, zupl_at n2 (Nat.succ.inj hl) hm]
      -- the term is one of the other new ones
      have : ∀ {xs ns : List Nat}, zmem n ns = false → xs.length = ns.length → zmem v xs = true → zoc (Nat.beq n) (zslk (zzip xs (ns.map zx) ++ σ) v) = false := by
        intro xs
        induction xs with
        | nil => intro ns _ _ h; cases h
        | cons y ys ih =>
          intro ns a b c
          cases ns with
          | nil => cases b
          | cons k ks =>
            obtain ⟨a1, a2⟩ := orF a
            show zoc (Nat.beq n) (bif Nat.beq y v then zx k else zslk (zzip ys (ks.map zx) ++ σ) v) = false
            cases e : Nat.beq y v with
            | true =>
              show (Nat.beq n k || false) = false
              have : Nat.beq n k = false := by
                cases w : Nat.beq n k with
                | false => rfl
                | true => rw [beqN w, Nat.beq_refl] at a1; cases a1
              rw [this]
              rfl
            | false =>
              refine ih a2 (Nat.succ.inj b) ?_
              have : (Nat.beq y v || zmem v ys) = true := c
              rw [e] at this
              exact this
      exact this n1 (Nat.succ.inj hl) hm
theorem zslk_app {v : Nat} {τ : List (Nat × ZT)} : ∀ {xs ns : List Nat}, zmem v xs = false → zslk (zzip xs (ns.map zx) ++ τ) v = zslk τ v
  | [], ns, _ => by cases ns <;> rfl
  | x :: xs, [], _ => rfl
  | x :: xs, n :: ns, h => by
    obtain ⟨h1, h2⟩ := orF h
    show (bif Nat.beq x v then zx n else zslk (zzip xs (ns.map zx) ++ τ) v) = _
    rw [h1]
    exact zslk_app h2
/-- what a call makes of a state -/
def zaft (G : ZG) (T : ZTab) (c : ZCt) (s : ZSt) (rest : ZSs) (ns : List Nat) (σ : List (Nat × ZT)) (R : List ZA) : ZSt := (s.1, (match kRs c with
    | some q => (q.1, zS σ (zx q.2)) :: rest
    | none => rest), ((kEF c).map (zS σ) ++ s.2.2.1, (kED c).map (fun d => d.map (zS σ)) ++ s.2.2.2.1, (kO c).map (fun e => (zS σ e.1, zS σ e.2.1, zS σ (zx e.2.2))) ++ (R ++ s.2.2.2.2.1.filter (zatk T (kMd c))), (kEV c).map (fun k => (k, ([], [], [], []))) ++ ((kLE c).map (fun b => (0, zSB σ b)) ++ s.2.2.2.2.2.filter (zkpC G (kMd c) T.1))))
def xCon2 (G : ZG) (T : ZTab) (M : List ZR) (lo i : Nat) (c : ZCt) (s : ZSt) (as rest : ZSs) (σ : List (Nat × ZT)) (es k : List Nat) : ZO := bif zarg σ (kA c) as && zent σ s.2.2.2.2.1 (kE c) es then (match rdCs (kFs c).length k with
    | (cs, k) => bif zcerts s.2.2.1 cs ((kFs c).map (zS σ)) then (match rdNs (kVs c).length k with
      | (vs, k) => (match rdNs (kLV c).length k with
      | (ls, k) => bif zreqV s.2.2.2.2.2 (kVs c) vs && (zsubM (kMd c) M && jV σ s.2.2.2.2.2 ((kLV c).map fun b => (0, b)) ls) then (match rdNs (cOv c).length k with
        | (ns, k) => bif (kLE c).all (fun b => (zzip (cOv c) (ns.map zx) ++ σ).all fun q => !(zoc (fun v => zmem v b.1) q.2)) && (znod ns && (Nat.beq ns.length (cOv c).length && (ns.all (fun n => Nat.ble lo n) && (!(zocL (fun v => zmem v ns) s.1) && (!(zocS (fun v => zmem v ns) s.2.1) && (!(zocK (fun v => zmem v ns) s.2.2) && (cAv c).all (fun v => !(zoc (fun v => zmem v ns) (zslk σ v))))))))) then (match k with
        | na :: k => (match zkr T (kMd c) s.2.2.1 s.2.2.2.2.1 na k with
          | some (R, k) => some ([(i + 1, zaft G T c s rest ns (zzip (cOv c) (ns.map zx) ++ σ) R)], k)
          | none => none)
        | [] => none) else none) else none)) else none) else none
def xCon (G : ZG) (T : ZTab) (M : List ZR) (lo i : Nat) (c : ZCt) (s : ZSt) (as rest : ZSs) (k : List Nat) : ZO := match rdNs (kE c).length k with
  | (es, k) => (match rdTs (kGh c).length k with
    | (gs, k) => xCon2 G T M lo i c s as rest (zen s.2.2.2.2.1 (kE c) es ++ (zas (kA c) as ++ zzip (kGh c) gs)) es k)
theorem zmem_of {v : Nat} : ∀ {l : List Nat}, zmem v l = true → v ∈ l
  | [], h => by cases h
  | n :: r, h => by
    have : (Nat.beq n v || zmem v r) = true := h
    rw [Bool.or_eq_true] at this
    rcases this with e | e
    · rw [beqN e]; exact List.mem_cons_self
    · exact List.mem_cons_of_mem _ (zmem_of e)
theorem mem_zmem {v : Nat} : ∀ {l : List Nat}, v ∈ l → zmem v l = true
  | [], h => absurd h List.not_mem_nil
  | n :: r, h => by
    show (Nat.beq n v || zmem v r) = true
    rcases List.mem_cons.mp h with e | e
    · rw [e, Nat.beq_refl]; rfl
    · rw [mem_zmem e, Bool.or_true]
