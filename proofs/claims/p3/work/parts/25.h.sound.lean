/-! one instruction goes well -/
theorem m_okS {K : mK} {Q : MO → MH → Prop} {mc ms pc : Nat} {L : List (Nat × MV)} {S : List MV} {h : MH} (k : mokL L → mokS S → MW K Q mc ms pc L S h) : MW K Q mc ms pc L S h :=
  fun D x s0 p l e R s m args below meth c H locs cells slots MC MS Q' ls cx F P SS hl oL oS hc hs => k oL oS D x s0 p l e R s m args below meth c H locs cells slots MC MS Q' ls cx F P SS hl oL oS hc hs
def Inv (G : ZG) (T : ZTab) (M : List ZR) (h0 : MH) (ρ : Nat → Int) (h : MH) (s : ZSt) : Prop := Kn G ρ h s.2.2 ∧ StrZ T h ∧ Frm M h0 h
section HS
variable {G : ZG} {T : ZTab} {M : List ZR} {P : MP} {K : mK} {o : Nat} {Q : MO → MH → Prop} {h0 : MH} {mc ms : Nat} {lo n i pc : Nat} {z : Int} {a b c : Nat} {s s' : ZSt} {ρ : Nat → Int} {h : MH} {ss : List (Nat × ZSt)} {k k' : List Nat} {rest : ZSs} {x y : ZT}
abbrev Go (G : ZG) (T : ZTab) (M : List ZR) (P : MP) (K : mK) (Q : MO → MH → Prop) (mc ms : Nat) (h0 : MH) (lo : Nat) (ρ : Nat → Int) (j : Nat) (s : ZSt) : Prop := ∀ (ρ' : Nat → Int) (h' : MH), (∀ v, v < lo → ρ' v = ρ v) → Inv G T M h0 ρ' h' s → MW K Q mc ms (pcA P j) (zL ρ' s.1) (zSk ρ' s.2.1) h'
theorem goV (g : StrZ T h) (F : Frm M h0 h) {tag : Nat} {w : Int} {j : Nat} (v : VOk G lo ρ h s s' rest tag w) (k : Go G T M P K Q mc ms h0 lo ρ j s') : MW K Q mc ms (pcA P j) (zL ρ s.1) ((tag, w) :: zSk ρ rest) h := by
  obtain ⟨ρ', a, b, c, d⟩ := v
  have := k ρ' h a ⟨b, g, F⟩
  rw [c, d] at this
  exact this
theorem gone {q : Nat × ZSt} (kk : ∀ p ∈ [q], Go G T M P K Q mc ms h0 lo ρ p.1 p.2) : Go G T M P K Q mc ms h0 lo ρ q.1 q.2 := kk q List.mem_cons_self
theorem top2 {t1 t2 : Nat} (oS : mokS (zSk ρ ((t2, y) :: (t1, x) :: rest))) : mok (t1, zv ρ x) ∧ mok (t2, zv ρ y) := ⟨(mokS_cons.mp (mokS_cons.mp oS).2).1, (mokS_cons.mp oS).1⟩
theorem q_ar {t o' : Nat} {f : Int → Int → Int} (I : Inv G T M h0 ρ h s) (hf : ∀ u v, f u v = twr t (fop o' u v)) (e : st2' t t i s (fun x y rest => xAr lo t o' s x y rest k) = some (ss, k')) (kk : ∀ q ∈ ss, Go G T M P K Q mc ms h0 lo ρ q.1 q.2) : sBin t f (zSk ρ s.2.1) fun S => MW K Q mc ms (pcA P (i + 1)) (zL ρ s.1) S h := by
  obtain ⟨x, y, rest, s', hS, e1, rfl⟩ := st2'_of e
  have v := xAr_of (tag := t) I.1 hS e1
  rw [hS]
  refine ⟨rfl, rfl, ?_⟩
  rw [hf]
  exact goV I.2.1 I.2.2 v (gone kk)
theorem q_dv {t d : Nat} {f : Int → Int → Int} (I : Inv G T M h0 ρ h s) (ht : t = 0 ∨ t = 1) (oS : mokS (zSk ρ s.2.1)) (hf : ∀ u v, f u v = fdv d u v) (e : st2' t t i s (fun x y rest => xDv lo t d s x y rest k) = some (ss, k')) (kk : ∀ q ∈ ss, Go G T M P K Q mc ms h0 lo ρ q.1 q.2) : sDiv t (tlo t) (thi t) f (zSk ρ s.2.1) fun S => MW K Q mc ms (pcA P (i + 1)) (zL ρ s.1) S h := by
  obtain ⟨x, y, rest, s', hS, e1, rfl⟩ := st2'_of e
  rw [hS] at oS ⊢
  have rx : tlo t ≤ zv ρ x ∧ zv ρ x ≤ thi t := by
    rcases ht with e | e <;> subst e <;> exact (top2 oS).1
  obtain ⟨v, ne, r⟩ := xDv_of (tag := t) I.1 hS rx e1
  refine ⟨rfl, rfl, ne, by rw [hf]; exact r, ?_⟩
  rw [hf]
  exact goV I.2.1 I.2.2 v (gone kk)
theorem q_bt {t o' : Nat} {f : Int → Int → Int} (I : Inv G T M h0 ρ h s) (ht : t = 0 ∨ t = 1) (oS : mokS (zSk ρ s.2.1)) (hf : ∀ u v, f u v = fbt t o' u v) (e : st2' t t i s (fun x y rest => xBt lo t o' s x y rest k) = some (ss, k')) (kk : ∀ q ∈ ss, Go G T M P K Q mc ms h0 lo ρ q.1 q.2) : sBin t f (zSk ρ s.2.1) fun S => MW K Q mc ms (pcA P (i + 1)) (zL ρ s.1) S h := by
  obtain ⟨x, y, rest, s', hS, e1, rfl⟩ := st2'_of e
  rw [hS] at oS ⊢
  have rx : tlo t ≤ zv ρ x ∧ zv ρ x ≤ thi t := by
    rcases ht with e | e <;> subst e <;> exact (top2 oS).1
  have ry : zv ρ y ≤ thi t := by
    rcases ht with e | e <;> subst e <;> exact (top2 oS).2.2
  have v := xBt_of (tag := t) I.1 hS rx (fun _ => ry) e1
  refine ⟨rfl, rfl, ?_⟩
  rw [hf]
  exact goV I.2.1 I.2.2 v (gone kk)
theorem q_sh {o' : Nat} {f : Int → Int → Int} (I : Inv G T M h0 ρ h s) (oS : mokS (zSk ρ s.2.1)) (h3 : 3 ≤ o') (hf : ∀ u v, f u v = fbt 1 o' u v) (e : st2' 1 0 i s (fun x y rest => xBt lo 1 o' s x y rest k) = some (ss, k')) (kk : ∀ q ∈ ss, Go G T M P K Q mc ms h0 lo ρ q.1 q.2) : sSh f (zSk ρ s.2.1) fun S => MW K Q mc ms (pcA P (i + 1)) (zL ρ s.1) S h := by
  obtain ⟨x, y, rest, s', hS, e1, rfl⟩ := st2'_of e
  rw [hS] at oS ⊢
  have rx : tlo 1 ≤ zv ρ x ∧ zv ρ x ≤ thi 1 := (top2 oS).1
  have v := xBt_of (tag := 1) I.1 hS rx (fun q => absurd q (by omega)) e1
  refine ⟨rfl, rfl, ?_⟩
  rw [hf]
  exact goV I.2.1 I.2.2 v (gone kk)
theorem q_un {t t' o' : Nat} {f : Int → Int} (I : Inv G T M h0 ρ h s) (hf : ∀ u, f u = fun1 t' o' u) (e : st1' t i s (fun x rest => xUn lo t' o' s x rest k) = some (ss, k')) (kk : ∀ q ∈ ss, Go G T M P K Q mc ms h0 lo ρ q.1 q.2) : sUn t t' f (zSk ρ s.2.1) fun S => MW K Q mc ms (pcA P (i + 1)) (zL ρ s.1) S h := by
  obtain ⟨x, rest, s', hS, e1, rfl⟩ := st1'_of e
  have v := xUn_of (tag := t') I.1 hS e1
  rw [hS]
  refine ⟨rfl, ?_⟩
  rw [hf]
  exact goV I.2.1 I.2.2 v (gone kk)
theorem q_mm {t o' : Nat} {f : Int → Int → Int} (I : Inv G T M h0 ρ h s) (hf : ∀ u v, f u v = fmm o' u v) (e : (bif Nat.ble (zcats s.2.1) 8 then st2' t t i s (fun x y rest => xMm lo t o' s x y rest k) else none) = some (ss, k')) (kk : ∀ q ∈ ss, Go G T M P K Q mc ms h0 lo ρ q.1 q.2) : sMin t f (zSk ρ s.2.1) fun S => MW K Q mc ms (pcA P (i + 1)) (zL ρ s.1) S h := by
  cases e0 : Nat.ble (zcats s.2.1) 8 with
  | false => rw [e0] at e; cases e
  | true =>
    rw [e0, cond_true] at e
    obtain ⟨x, y, rest, s', hS, e1, rfl⟩ := st2'_of e
    have v := xMm_of (tag := t) I.1 hS e1
    have e0 := bleN e0
    rw [hS] at e0 ⊢
    refine ⟨rfl, rfl, ?_, ?_⟩
    · show ((zSk ρ rest).map mcat).sum ≤ 8
      rw [zcats_of]
      have : zcats ((t, y) :: (t, x) :: rest) = zcat t + (zcat t + zcats rest) := rfl
      omega
    · rw [hf]
      exact goV I.2.1 I.2.2 v (gone kk)
theorem q_ld {t : Nat} (ht : t < 2) (I : Inv G T M h0 ρ h s) (e : one' i (xLod t a s k) = some (ss, k')) (kk : ∀ q ∈ ss, Go G T M P K Q mc ms h0 lo ρ q.1 q.2) : sLd t (zL ρ s.1) a (zSk ρ s.2.1) fun S => MW K Q mc ms (pcA P (i + 1)) (zL ρ s.1) S h := by
  obtain ⟨s', e1, rfl⟩ := one'_of e
  unfold xLod at e1
  split at e1
  · next v hv =>
    cases e2 : Nat.beq v.1 t with
    | false => rw [e2] at e1; cases e1
    | true =>
      rw [e2, cond_true] at e1
      have e3 : Nat.beq t 2 = false := by
        match t, ht with
        | 0, _ => rfl
        | 1, _ => rfl
      rw [e3, cond_false] at e1
      cases e1
      unfold sLd
      rw [zlk_of ρ hv]
      exact ⟨beqN e2, fun q => absurd q (by omega), gone kk ρ h (fun _ _ => rfl) ⟨I.1, I.2⟩⟩
  · cases e1
theorem q_al (I : Inv G T M h0 ρ h s) (e : one' i (xLod 2 a s k) = some (ss, k')) (kk : ∀ q ∈ ss, Go G T M P K Q mc ms h0 lo ρ q.1 q.2) : sLd 2 (zL ρ s.1) a (zSk ρ s.2.1) fun S => MW K Q mc ms (pcA P (i + 1)) (zL ρ s.1) S h := by
  obtain ⟨s', e1, rfl⟩ := one'_of e
  unfold xLod at e1
  split at e1
  · next v hv =>
    cases e2 : Nat.beq v.1 2 with
    | false => rw [e2] at e1; cases e1
    | true =>
      rw [e2, cond_true] at e1
      replace e1 : (match znn s.2.2.1 v.2 k with
        | some k => some ((s.1, v :: s.2.1, s.2.2), k)
        | none => none) = some (s', k') := e1
      split at e1
      · next k1 e3 =>
        cases e1
        unfold sLd
        rw [zlk_of ρ hv]
        exact ⟨beqN e2, fun _ => znn_of I.1.1 e3, gone kk ρ h (fun _ _ => rfl) ⟨I.1, I.2⟩⟩
      · cases e1
  · cases e1
theorem q_inc (I : Inv G T M h0 ρ h s) (e : one' i (xInc lo a z s k) = some (ss, k')) (kk : ∀ q ∈ ss, Go G T M P K Q mc ms h0 lo ρ q.1 q.2) : (match mlook (zL ρ s.1) a with
    | some v => v.1 = 0 ∧ MW K Q mc ms (pcA P (i + 1)) (mput (zL ρ s.1) a (0, wrI (v.2 + z))) (zSk ρ s.2.1) h
    | none => False) := by
  obtain ⟨s', e1, rfl⟩ := one'_of e
  unfold xInc at e1
  split at e1
  · next v hv =>
    cases e2 : Nat.beq v.1 0 with
    | false => rw [e2] at e1; cases e1
    | true =>
      rw [e2, cond_true] at e1
      rw [zlk_of ρ hv]
      refine ⟨beqN e2, ?_⟩
      show MW K Q mc ms (pcA P (i + 1)) (mput (zL ρ s.1) a (0, wrI (zv ρ v.2 + z))) (zSk ρ s.2.1) h
      split at e1
      · next k1 =>
        split at e1
        · next k2 e3 =>
          cases e1
          have r := zrng_of I.1.1 e3
          rw [zpl_v] at r
          have q := gone kk ρ h (fun _ _ => rfl) ⟨I.1, I.2⟩
          replace q : MW K Q mc ms (pcA P (i + 1)) (zL ρ (zput s.1 a (0, zpl v.2 z))) (zSk ρ s.2.1) h := q
          rw [zput_of, zpl_v] at q
          rw [wrI_id r]
          exact q
        · cases e1
      · next n k1 =>
        cases e3 : zfr lo s n with
        | false => rw [e3] at e1; cases e1
        | true =>
          rw [e3, cond_true] at e1
          cases e1
          obtain ⟨h1, h2, h3, h4⟩ := zfr_of e3
          have q := gone kk (zup ρ n (wrI (zv ρ v.2 + z))) h (fun u hu => zup_no ρ _ (by
            cases w : Nat.beq n u with
            | false => rfl
            | true => have := beqN w; omega)) ⟨(I.1.up _ h4).facts (rngF_of (tag := 0) (by rw [zxu]; exact (wrI_rng _).1) (by rw [zxu]; exact (wrI_rng _).2)), I.2⟩
          replace q : MW K Q mc ms (pcA P (i + 1)) (zL (zup ρ n (wrI (zv ρ v.2 + z))) (zput s.1 a (0, zx n))) (zSk (zup ρ n (wrI (zv ρ v.2 + z))) s.2.1) h := q
          rw [zput_of, zxu, zL_cg h2 (fun _ hv => zup_no ρ _ hv), zSk_cg h3 (fun _ hv => zup_no ρ _ hv)] at q
          exact q
      · cases e1
  · cases e1
theorem q_if {t d j : Nat} (I : Inv G T M h0 ρ h s) (e : xIf t d a j s x y rest k = some (ss, k')) (kk : ∀ q ∈ ss, Go G T M P K Q mc ms h0 lo ρ q.1 q.2) : (cnd d (zv ρ x) (zv ρ y) → MW K Q mc ms (pcA P a) (zL ρ s.1) (zSk ρ rest) h) ∧ (¬ cnd d (zv ρ x) (zv ρ y) → MW K Q mc ms (pcA P j) (zL ρ s.1) (zSk ρ rest) h) := by
  unfold xIf at e
  cases e1 : Nat.blt d 6 with
  | false => rw [e1] at e; cases e
  | true =>
    rw [e1, cond_true] at e
    cases e
    refine ⟨fun q => ?_, fun q => ?_⟩
    · exact kk _ List.mem_cons_self ρ h (fun _ _ => rfl) ⟨I.1.adF (cF_of q), I.2⟩
    · exact kk _ (List.mem_cons_of_mem _ List.mem_cons_self) ρ h (fun _ _ => rfl) ⟨I.1.adF (cF_of (cN_of (bltN e1) q)), I.2⟩
theorem i_lt {tag : Nat} {x : ZT} {r : ZSs} (oS : mokS (zSk ρ ((0, x) :: r))) : zv ρ x < 1099511627776 := by
  have m : -2147483648 ≤ zv ρ x ∧ zv ρ x ≤ 2147483647 := (mokS_cons.mp oS).1
  omega
theorem xLd_of (tk : TabOk T) {kd tag : Nat} {r i' : ZT} (hk : kd < 16) (I : Inv G T M h0 ρ h s) (oS : mokS (zSk ρ s.2.1)) (hS : s.2.1 = (0, i') :: (2, r) :: rest) (e : xLd T lo kd tag s r i' rest k = some (s', k')) : sIdx h (zv ρ r) (zv ρ i') ∧ (h.2 (zv ρ r).toNat).1 = kd ∧ (mokE kd ((h.2 (zv ρ r).toNat).2.2 (zv ρ i').toNat) → VOk G lo ρ h s s' rest tag ((h.2 (zv ρ r).toNat).2.2 (zv ρ i').toNat)) := by
  have hr : ∀ q ∈ rest, q ∈ s.2.1 := fun q hq => by rw [hS]; exact List.mem_cons_of_mem _ (List.mem_cons_of_mem _ hq)
  rw [hS] at oS
  have iK := i_lt (tag := 0) oS
  unfold xLd at e
  split at e
  · next p k1 e1 =>
    split at e
    · next k2 e3 =>
      obtain ⟨a1, a2, a3, a4, _⟩ := zcl_of tk I.1.1 I.1.2.2.1 I.2.1 e1
      have a4 := a4 hk
      obtain ⟨i0, i1⟩ := zix_of I.1.1 e3
      refine ⟨⟨a1, a2, i0, ?_⟩, a3, fun m => ?_⟩
      · rw [a4]
        exact i1
      · rw [← gz_at a1 i0 iK]
        refine zrd_of I.1 hr (fun ρ' t ht => kF_of ?_) e
        rw [ht, gz_at a1 i0 iK]
        exact m
    · cases e
  · cases e
theorem q_al' (tk : TabOk T) {kd tag : Nat} (hk : kd < 16) (I : Inv G T M h0 ρ h s) (oS : mokS (zSk ρ s.2.1)) (e : st2' 2 0 i s (fun x y rest => xLd T lo kd tag s x y rest k) = some (ss, k')) (kk : ∀ q ∈ ss, Go G T M P K Q mc ms h0 lo ρ q.1 q.2) : sAld kd tag (zSk ρ s.2.1) h fun S => MW K Q mc ms (pcA P (i + 1)) (zL ρ s.1) S h := by
  obtain ⟨x, y, rest, s', hS, e1, rfl⟩ := st2'_of e
  obtain ⟨q1, q2, q3⟩ := xLd_of tk hk I oS hS e1
  rw [hS]
  exact ⟨rfl, rfl, q1, q2, fun m => goV I.2.1 I.2.2 (q3 m) (gone kk)⟩
theorem xSt_of (gk : GOk G) (tk : TabOk T) {kd tg : Nat} (hk : kd < 5) (I : Inv G T M h0 ρ h s) (oS : mokS (zSk ρ s.2.1)) (e : xSt G T M lo n kd tg s k = some (s', k')) : ∃ v i' r rest, s.2.1 = (tg, v) :: (0, i') :: (2, r) :: rest ∧ sIdx h (zv ρ r) (zv ρ i') ∧ 4 ≤ (zv ρ r).toNat ∧ (h.2 (zv ρ r).toNat).1 = kd ∧ (kd ≠ 0 → kd ≠ 1 → mokE kd (zv ρ v)) ∧ Inv G T M h0 ρ (hset h (zv ρ r).toNat (zv ρ i').toNat (zv ρ v)) s' ∧ s'.1 = s.1 ∧ s'.2.1 = rest := by
  unfold xSt at e
  split at e
  · next v i' r rest hS =>
    cases e0 : (Nat.beq v.1 tg && (Nat.beq i'.1 0 && Nat.beq r.1 2)) with
    | false => rw [e0] at e; cases e
    | true =>
      rw [e0, cond_true] at e
      obtain ⟨b1, b2⟩ := andB e0
      obtain ⟨b2, b3⟩ := andB b2
      split at e
      · next p k1 e1 =>
        cases e2 : Nat.ble 4 p.2.1 with
        | false => rw [e2] at e; cases e
        | true =>
          rw [e2, cond_true] at e
          have c1 := bleN e2
          have iK : zv ρ i'.2 < 1099511627776 := by
            have o := (mokS_cons.mp (mokS_cons.mp (show mokS ((v.1, zv ρ v.2) :: (i'.1, zv ρ i'.2) :: (r.1, zv ρ r.2) :: zSk ρ rest) by rw [hS] at oS; exact oS)).2).1
            rw [beqN b2] at o
            have o : -2147483648 ≤ zv ρ i'.2 ∧ zv ρ i'.2 ≤ 2147483647 := o
            omega
          split at e
          · next k2 e3 =>
            split at e
            · next k3 e4 =>
              obtain ⟨a1, a2, a3, a4, a5, a6, a7, a8, a9⟩ := zcl_of tk I.1.1 I.1.2.2.1 I.2.1 e1
              have a4 := a4 (by omega)
              obtain ⟨i0, i1⟩ := zix_of I.1.1 e3
              obtain ⟨w1, w2, w3, w4⟩ := xWr_of gk I.1 I.2.1 a1 i0 iK a5 a6 e
              have kp := a8 (by omega) (zv ρ i'.2).toNat
              refine ⟨v.2, i'.2, r.2, rest, ?_, ⟨a1, a2, i0, ?_⟩, by omega, a3, fun n0 n1 => ?_, ⟨w1, I.2.1.write i0 kp.1 kp.2, I.2.2.trans w4⟩, w2, w3⟩
              · rw [hS, ← beqN b1, ← beqN b2, ← beqN b3]
              · rw [a4]
                exact i1
              · match kd, n0, n1, hk, e4 with
                | 2, _, _, _, e4 => exact zwi_of I.1.1 e4
                | 3, _, _, _, e4 =>
                  replace e4 : (match rdCs 2 k2 with
                    | (cs, k) => bif zcerts s.2.2.1 cs [zpl v.2 128, zsb (zc 127) v.2] then some k else none) = some k3 := e4
                  split at e4
                  next cs k4 e5 =>
                  cases e6 : zcerts s.2.2.1 cs [zpl v.2 128, zsb (zc 127) v.2] with
                  | false => rw [e6] at e4; cases e4
                  | true =>
                    have q := zcerts_of I.1.1 e6
                    have q1 := q _ List.mem_cons_self
                    have q2 := q _ (List.mem_cons_of_mem _ List.mem_cons_self)
                    rw [zpl_v] at q1
                    rw [zsb_v, zc_v] at q2
                    exact ⟨by omega, by omega⟩
                | 4, _, _, _, e4 => exact zwi_of I.1.1 e4
                | 0, n0, _, _, _ => exact absurd rfl n0
                | 1, _, n1, _, _ => exact absurd rfl n1
            · cases e
          · cases e
      · cases e
  · cases e
theorem q_st (gk : GOk G) (tk : TabOk T) {kd tg : Nat} (hk : kd < 5) (I : Inv G T M h0 ρ h s) (oS : mokS (zSk ρ s.2.1)) (e : one' i (xSt G T M lo n kd tg s k) = some (ss, k')) (kk : ∀ q ∈ ss, Go G T M P K Q mc ms h0 lo ρ q.1 q.2) : sAst kd tg (zSk ρ s.2.1) h fun S h => MW K Q mc ms (pcA P (i + 1)) (zL ρ s.1) S h := by
  obtain ⟨s', e1, rfl⟩ := one'_of e
  obtain ⟨v, i', r, rest, hS, q1, q2, q3, q4, q5, q6, q7⟩ := xSt_of gk tk hk I oS e1
  rw [hS]
  refine ⟨rfl, rfl, rfl, q1, q2, q3, q4, ?_⟩
  have := gone kk ρ _ (fun _ _ => rfl) q5
  replace this : MW K Q mc ms (pcA P (i + 1)) (zL ρ s'.1) (zSk ρ s'.2.1) _ := this
  rw [q6, q7] at this
  exact this
theorem mem_zsws {lo' : Int} : ∀ {ts : List Nat} {j m t : Nat}, ts[m]? = some t → (t, zadF s rest (cF 0 x (zc (lo' + Int.ofNat (j + m)))) []) ∈ zsws s x rest lo' j ts
  | [], j, m, t, h => by simp at h
  | u :: ts, j, 0, t, h => by
    have : u = t := by simpa using h
    subst this
    exact List.mem_cons_self
  | u :: ts, j, m + 1, t, h => by
    have h : ts[m]? = some t := by simpa using h
    have := mem_zsws (lo' := lo') (j := j + 1) h
    rw [show j + 1 + m = j + (m + 1) by omega] at this
    exact List.mem_cons_of_mem _ this
theorem q_sw {q : Option (Int × List Nat)} (I : Inv G T M h0 ρ h s) (e : xSw q s k = some (ss, k')) (kk : ∀ q ∈ ss, Go G T M P K Q mc ms h0 lo ρ q.1 q.2) : sSw q (zSk ρ s.2.1) fun t S => MW K Q mc ms (pcA P t) (zL ρ s.1) S h := by
  unfold xSw at e
  split at e
  · next u rest lo' dflt ts hS =>
    cases e1 : Nat.beq u.1 0 with
    | false => rw [e1] at e; cases e
    | true =>
      rw [e1, cond_true] at e
      cases e
      rw [hS]
      refine ⟨beqN e1, ?_⟩
      have kd : (zv ρ u.2 < lo' ∨ lo' + (ts.length : Int) ≤ zv ρ u.2) → MW K Q mc ms (pcA P dflt) (zL ρ s.1) (zSk ρ rest) h := fun w => by
        refine kk _ List.mem_cons_self ρ h (fun _ _ => rfl) ⟨I.1.adF ⟨noF, List.forall_mem_cons.mpr ⟨?_, noD⟩⟩, I.2⟩
        rcases w with w | w
        · exact ⟨_, List.mem_cons_self, by rw [zpl_v, zsb_v, zc_v]; omega⟩
        · refine ⟨_, List.mem_cons_of_mem _ List.mem_cons_self, ?_⟩
          rw [zsb_v, zc_v]
          have : Int.ofNat ts.length = (ts.length : Int) := rfl
          omega
      show sSw2 ts[(zv ρ u.2 - lo').toNat]? lo' dflt (zv ρ u.2) fun t => MW K Q mc ms (pcA P t) (zL ρ s.1) (zSk ρ rest) h
      cases e2 : ts[(zv ρ u.2 - lo').toNat]? with
      | some t =>
        show (if lo' ≤ zv ρ u.2 then MW K Q mc ms (pcA P t) (zL ρ s.1) (zSk ρ rest) h else MW K Q mc ms (pcA P dflt) (zL ρ s.1) (zSk ρ rest) h)
        by_cases w : lo' ≤ zv ρ u.2
        · rw [if_pos w]
          have m := mem_zsws (s := s) (rest := rest) (x := u.2) (lo' := lo') (j := 0) e2
          refine kk _ (List.mem_cons_of_mem _ m) ρ h (fun _ _ => rfl) ⟨I.1.adF (cF_of (c := 0) ?_), I.2⟩
          show zv ρ u.2 = zv ρ (zc _)
          rw [zc_v, Nat.zero_add]
          show _ = lo' + (((zv ρ u.2 - lo').toNat : Nat) : Int)
          omega
        · rw [if_neg w]
          exact kd (Or.inl (by omega))
      | none =>
        have nn := List.getElem?_eq_none_iff.mp e2
        show MW K Q mc ms (pcA P dflt) (zL ρ s.1) (zSk ρ rest) h
        by_cases w : zv ρ u.2 < lo'
        · exact kd (Or.inl w)
        · exact kd (Or.inr (by omega))
  · cases e
theorem q_get (tk : TabOk T) (I : Inv G T M h0 ρ h s) (e : st1' 2 i s (fun x rest => xGet T lo a b c s x rest k) = some (ss, k')) (kk : ∀ q ∈ ss, Go G T M P K Q mc ms h0 lo ρ q.1 q.2) : (match zSk ρ s.2.1 with
    | r :: S => r.1 = 2 ∧ 0 ≤ r.2 ∧ r.2.toNat < h.1 ∧ (h.2 r.2.toNat).1 = 16 + a ∧ (mok (tgo c, (h.2 r.2.toNat).2.2 b) → MW K Q mc ms (pcA P (i + 1)) (zL ρ s.1) ((tgo c, (h.2 r.2.toNat).2.2 b) :: S) h)
    | _ => False) := by
  obtain ⟨x, rest, s', hS, e1, rfl⟩ := st1'_of e
  have hr : ∀ q ∈ rest, q ∈ s.2.1 := fun q hq => by rw [hS]; exact List.mem_cons_of_mem _ hq
  unfold xGet at e1
  split at e1
  · next p k1 e2 =>
    obtain ⟨a1, a2, a3, a4, a5, a6, a7, a8, a9⟩ := zcl_of tk I.1.1 I.1.2.2.1 I.2.1 e2
    rw [hS]
    refine ⟨rfl, a1, a2, a3, fun m => ?_⟩
    show MW K Q mc ms (pcA P (i + 1)) (zL ρ s.1) ((tgo c, (h.2 (zv ρ x).toNat).2.2 b) :: zSk ρ rest) h
    replace m : mok (tgo c, (h.2 (zv ρ x).toNat).2.2 b) := m
    cases e3 : Nat.beq c 2 with
    | true =>
      rw [e3, cond_true] at e1
      cases e4 : (Nat.beq p.2.1 p.2.2 && Nat.blt b 1000) with
      | false =>
        rw [e4, cond_false] at e1
        cases e5 : Nat.blt b 1000 with
        | false => rw [e5] at e1; cases e1
        | true =>
          rw [e5, cond_true] at e1
          have e5 := bltN e5
          have eg : gz h (zv ρ x) (zv ρ (zc (Int.ofNat b))) = (h.2 (zv ρ x).toNat).2.2 b := by
            rw [zc_v]
            exact gz_at a1 (Int.natCast_nonneg b) (by show (b : Int) < _; omega)
          rw [← eg, show tgo c = 2 by rw [beqN e3]; rfl]
          exact goV I.2.1 I.2.2 (zrd_of I.1 hr (fun _ _ _ => noF) e1) (gone kk)
      | true =>
        rw [e4, cond_true] at e1
        obtain ⟨e4, e5⟩ := andB e4
        have e4 := beqN e4
        have e5 := bltN e5
        have a6 : zv ρ x ≤ (p.2.2 : Int) := by
          rcases a6 with z | z
          · omega
          · exact z
        have ec : (zv ρ x).toNat = p.2.1 := by omega
        split at e1
        · next m' hm =>
          cases e1
          have v := I.2.1.2.1 p.2.1 b (by rw [hm]; omega)
          rw [hm] at v
          rw [ec, v, show tgo c = 2 by rw [beqN e3]; rfl]
          exact gone kk ρ h (fun _ _ => rfl) ⟨I.1, I.2⟩
        · have eg : gz h (zv ρ x) (zv ρ (zc (Int.ofNat b))) = (h.2 (zv ρ x).toNat).2.2 b := by
            rw [zc_v]
            exact gz_at a1 (Int.natCast_nonneg b) (by show (b : Int) < _; omega)
          rw [← eg, show tgo c = 2 by rw [beqN e3]; rfl]
          exact goV I.2.1 I.2.2 (zrd_of I.1 hr (fun _ _ _ => noF) e1) (gone kk)
    | false =>
      rw [e3, cond_false] at e1
      cases e4 : ((Nat.beq c 0 || (Nat.beq c 1 || (Nat.beq c 3 || Nat.beq c 4))) && Nat.blt b 1000) with
      | false => rw [e4] at e1; cases e1
      | true =>
        rw [e4, cond_true] at e1
        obtain ⟨e4, e5⟩ := andB e4
        have e5 := bltN e5
        have eg : gz h (zv ρ x) (zv ρ (zc (Int.ofNat b))) = (h.2 (zv ρ x).toNat).2.2 b := by
          rw [zc_v]
          exact gz_at a1 (Int.natCast_nonneg b) (by show (b : Int) < _; omega)
        rw [← eg]
        refine goV I.2.1 I.2.2 (zrd_of I.1 hr (fun ρ' t ht => ?_) e1) (gone kk)
        rw [eg] at ht
        rw [← ht] at m
        rw [Bool.or_eq_true, Bool.or_eq_true, Bool.or_eq_true] at e4
        rcases e4 with w | w | w | w
        · have w := beqN w
          subst w
          exact rngF_of (tag := 0) m.1 m.2
        · have w := beqN w
          subst w
          exact rngF_of (tag := 1) m.1 m.2
        · have w := beqN w
          subst w
          exact noF
        · have w := beqN w
          subst w
          exact rngF_of (tag := 0) m.1 m.2
  · cases e1
theorem q_put (gk : GOk G) (tk : TabOk T) (I : Inv G T M h0 ρ h s) (e : one' i (xPut G T M lo n a b c s k) = some (ss, k')) (kk : ∀ q ∈ ss, Go G T M P K Q mc ms h0 lo ρ q.1 q.2) : (match zSk ρ s.2.1 with
    | v :: r :: S => v.1 = tgo c ∧ r.1 = 2 ∧ 0 ≤ r.2 ∧ r.2.toNat < h.1 ∧ (h.2 r.2.toNat).1 = 16 + a ∧ (c = 4 → 0 ≤ v.2 ∧ v.2 ≤ 1) ∧ MW K Q mc ms (pcA P (i + 1)) (zL ρ s.1) S (hset h r.2.toNat b v.2)
    | _ => False) := by
  obtain ⟨s', e1, rfl⟩ := one'_of e
  unfold xPut at e1
  split at e1
  · next v r rest hS =>
    cases e0 : (Nat.beq v.1 (tgo c) && (Nat.beq r.1 2 && Nat.blt b 1000)) with
    | false => rw [e0] at e1; cases e1
    | true =>
      rw [e0, cond_true] at e1
      obtain ⟨b1, b2⟩ := andB e0
      obtain ⟨b2, b3⟩ := andB b2
      split at e1
      · next p k1 e2 =>
        cases e3 : ((Nat.beq (T.2.2.2.1 p.2.1 b) 0 && Nat.beq p.2.1 p.2.2) || (Nat.beq a 1 && Nat.ble 1 b)) with
        | false => rw [e3] at e1; cases e1
        | true =>
          rw [e3, cond_true] at e1
          split at e1
          · next k2 e4 =>
            obtain ⟨a1, a2, a3, a4, a5, a6, a7, a8, a9⟩ := zcl_of tk I.1.1 I.1.2.2.1 I.2.1 e2
            have b3 := bltN b3
            have hp : T.2.2.2.1 (zv ρ r.2).toNat b = 0 ∧ ¬ b < (T.2.2.2.2 (zv ρ r.2).toNat).2 := by
              rw [Bool.or_eq_true] at e3
              rcases e3 with e3 | e3
              · obtain ⟨c1, c2⟩ := andB e3
                have c1 := beqN c1
                have c2 := beqN c2
                have ec : (zv ρ r.2).toNat = p.2.1 := by
                  rcases a6 with z | z
                  · omega
                  · omega
                rw [ec]
                refine ⟨c1, fun q => ?_⟩
                have u := (tk.2 p.2.1 b q).2.2
                have := (a9 c2).2
                omega
              · obtain ⟨c1, c2⟩ := andB e3
                have c1 := beqN c1
                have c2 := bleN c2
                subst c1
                refine ⟨Classical.byContradiction fun q => ?_, fun q => ?_⟩
                · obtain ⟨u1, u2, u3, u4⟩ := tk.1 _ _ q
                  have v := (I.2.1.1.2 _ u2 u1).1
                  have := u4 (by omega)
                  omega
                · obtain ⟨u1, u2, u3, u4⟩ := tk.2 _ _ q
                  have v := (I.2.1.1.2 _ u2 u1).1
                  omega
            have j0 : 0 ≤ zv ρ (zc (Int.ofNat b)) := by rw [zc_v]; exact Int.natCast_nonneg b
            have ej : (zv ρ (zc (Int.ofNat b))).toNat = b := by rw [zc_v]; rfl
            obtain ⟨w1, w2, w3, w4⟩ := xWr_of gk I.1 I.2.1 a1 j0 (by rw [zc_v]; show (b : Int) < _; omega) a5 a6 e1
            rw [ej] at w1 w4
            rw [hS]
            refine ⟨beqN b1, beqN b2, a1, a2, a3, fun q => ?_, ?_⟩
            · subst q
              exact zwi_of I.1.1 e4
            · have g' : StrZ T (hset h (zv ρ r.2).toNat b (zv ρ v.2)) := by
                have := I.2.1.write (r := zv ρ r.2) (i := zv ρ (zc (Int.ofNat b))) (v := zv ρ v.2) j0 (by rw [ej]; exact hp.1) (by
                  rw [ej]
                  exact hp.2)
                rw [ej] at this
                exact this
              have := gone kk ρ _ (fun _ _ => rfl) ⟨w1, g', I.2.2.trans w4⟩
              replace this : MW K Q mc ms (pcA P (i + 1)) (zL ρ s'.1) (zSk ρ s'.2.1) (hset h (zv ρ r.2).toNat b (zv ρ v.2)) := this
              rw [w2, w3] at this
              exact this
          · cases e1
      · cases e1
  · cases e1
theorem q_mv2 {o' : Nat} (I : Inv G T M h0 ρ h s) (e : one' i (xMv o' s k) = some (ss, k')) (kk : ∀ q ∈ ss, Go G T M P K Q mc ms h0 lo ρ q.1 q.2) : wp1 P i (pc, o', z, a, b, c) (zL ρ s.1) (zSk ρ s.2.1) h (kMW K Q mc ms P) Q := by
  obtain ⟨s', e1, rfl⟩ := one'_of e
  have go := gone kk ρ h (fun _ _ => rfl)
  unfold xMv at e1
  split at e1
  · next u S hS =>
    cases e2 : Nat.beq (zcat u.1) 1 with
    | false => rw [e2] at e1; cases e1
    | true =>
      rw [e2, cond_true] at e1
      cases e1
      rw [hS]
      exact ⟨beqN e2, go ⟨I.1, I.2⟩⟩
  · next u S hS =>
    cases e2 : Nat.beq (zcat u.1) 1 with
    | false => rw [e2] at e1; cases e1
    | true =>
      rw [e2, cond_true] at e1
      cases e1
      rw [hS]
      exact ⟨beqN e2, go ⟨I.1, I.2⟩⟩
  · next u S hS =>
    cases e2 : Nat.beq (zcat u.1) 2 with
    | false => rw [e2] at e1; cases e1
    | true =>
      rw [e2, cond_true] at e1
      cases e1
      rw [hS]
      exact ⟨beqN e2, go ⟨I.1, I.2⟩⟩
  · next v w S hS =>
    cases e2 : (Nat.beq (zcat v.1) 1 && Nat.beq (zcat w.1) 1) with
    | false => rw [e2] at e1; cases e1
    | true =>
      rw [e2, cond_true] at e1
      cases e1
      rw [hS]
      obtain ⟨h1, h2⟩ := andB e2
      exact ⟨beqN h1, beqN h2, go ⟨I.1, I.2⟩⟩
  · next v w u S hS =>
    cases e2 : (Nat.beq (zcat v.1) 1 && (Nat.beq (zcat w.1) 1 && Nat.beq (zcat u.1) 1)) with
    | false => rw [e2] at e1; cases e1
    | true =>
      rw [e2, cond_true] at e1
      cases e1
      rw [hS]
      obtain ⟨h1, h2⟩ := andB e2
      obtain ⟨h2, h3⟩ := andB h2
      exact ⟨beqN h1, beqN h2, beqN h3, go ⟨I.1, I.2⟩⟩
  · next v w S hS =>
    cases e2 : (Nat.beq (zcat v.1) 1 && Nat.beq (zcat w.1) 1) with
    | false => rw [e2] at e1; cases e1
    | true =>
      rw [e2, cond_true] at e1
      cases e1
      rw [hS]
      obtain ⟨h1, h2⟩ := andB e2
      exact ⟨beqN h1, beqN h2, go ⟨I.1, I.2⟩⟩
  · cases e1
theorem ist_of (ok : okP K o P = true) (gk : GOk G) (tk : TabOk T) {mi : MI} (hi : P.1[i]? = some mi) (I : Inv G T M h0 ρ h s) (e : ist G T M P lo n i mi s k = some (ss, k')) (kk : ∀ q ∈ ss, Go G T M P K Q mc ms h0 lo ρ q.1 q.2) : MW K Q mc ms (pcA P i) (zL ρ s.1) (zSk ρ s.2.1) h := by
  refine m_okS fun oL oS => so1 ok hi ?_
  obtain ⟨pc, op, z, a, b, c⟩ := mi
  have const : ∀ {tag : Nat} {w : Int}, some ([(i + 1, (s.1, (tag, zc w) :: s.2.1, s.2.2))], k) = some (ss, k') → MW K Q mc ms (pcA P (i + 1)) (zL ρ s.1) ((tag, w) :: zSk ρ s.2.1) h := fun {tag w} e => by
    cases e
    have := gone kk ρ h (fun _ _ => rfl) ⟨I.1, I.2⟩
    replace this : MW K Q mc ms (pcA P (i + 1)) (zL ρ s.1) ((tag, zv ρ (zc w)) :: zSk ρ s.2.1) h := this
    rw [zc_v] at this
    exact this
  match op, hi, e with
  | 1, hi, e => exact const e
  | 2, hi, e => exact const e
  | 66, hi, e => exact const e
  | 3, hi, e => exact q_ld (by decide) I e kk
  | 4, hi, e => exact q_ld (by decide) I e kk
  | 5, hi, e => exact q_al I e kk
  | 7, hi, e =>
    replace e : st1' 0 i s (fun x rest => some ((zput s.1 a (0, x), rest, s.2.2), k)) = some (ss, k') := e
    obtain ⟨x, rest, s', hS, e1, rfl⟩ := st1'_of e
    cases e1
    rw [hS]
    have := gone kk ρ h (fun _ _ => rfl) ⟨I.1, I.2⟩
    replace this : MW K Q mc ms (pcA P (i + 1)) (zL ρ (zput s.1 a (0, x))) (zSk ρ rest) h := this
    rw [zput_of] at this
    exact ⟨rfl, this⟩
  | 8, hi, e =>
    replace e : st1' 1 i s (fun x rest => some ((zput2 s.1 a (1, x), rest, s.2.2), k)) = some (ss, k') := e
    obtain ⟨x, rest, s', hS, e1, rfl⟩ := st1'_of e
    cases e1
    rw [hS]
    have := gone kk ρ h (fun _ _ => rfl) ⟨I.1, I.2⟩
    replace this : MW K Q mc ms (pcA P (i + 1)) (zL ρ (zput2 s.1 a (1, x))) (zSk ρ rest) h := this
    rw [zput2_of] at this
    exact ⟨rfl, this⟩
  | 9, hi, e =>
    replace e : st1' 2 i s (fun x rest => match znn s.2.2.1 x k with
      | some k => some ((zput s.1 a (2, x), rest, s.2.2), k)
      | none => none) = some (ss, k') := e
    obtain ⟨x, rest, s', hS, e1, rfl⟩ := st1'_of e
    split at e1
    · next k1 e2 =>
      cases e1
      rw [hS]
      have := gone kk ρ h (fun _ _ => rfl) ⟨I.1, I.2⟩
      replace this : MW K Q mc ms (pcA P (i + 1)) (zL ρ (zput s.1 a (2, x))) (zSk ρ rest) h := this
      rw [zput_of] at this
      exact ⟨rfl, znn_of I.1.1 e2, this⟩
    · cases e1
  | 11, hi, e => exact q_inc I e kk
  | 12, hi, e => exact q_ar (o' := 0) I (fun _ _ => rfl) e kk
  | 13, hi, e => exact q_ar (o' := 1) I (fun _ _ => rfl) e kk
  | 14, hi, e => exact q_ar (o' := 2) I (fun _ _ => rfl) e kk
  | 15, hi, e => exact q_un (o' := 0) I (fun _ => rfl) e kk
  | 16, hi, e => exact q_ar (o' := 0) I (fun _ _ => rfl) e kk
  | 17, hi, e => exact q_ar (o' := 1) I (fun _ _ => rfl) e kk
  | 18, hi, e => exact q_ar (o' := 2) I (fun _ _ => rfl) e kk
  | 19, hi, e => exact q_un (o' := 0) I (fun _ => rfl) e kk
  | 20, hi, e => exact q_dv (t := 0) (d := 0) I (Or.inl rfl) oS (fun _ _ => rfl) e kk
  | 21, hi, e => exact q_dv (t := 0) (d := 1) I (Or.inl rfl) oS (fun _ _ => rfl) e kk
  | 22, hi, e => exact q_dv (t := 1) (d := 0) I (Or.inr rfl) oS (fun _ _ => rfl) e kk
  | 23, hi, e => exact q_dv (t := 1) (d := 1) I (Or.inr rfl) oS (fun _ _ => rfl) e kk
  | 24, hi, e => exact q_bt (t := 0) (o' := 0) I (Or.inl rfl) oS (fun _ _ => rfl) e kk
  | 25, hi, e => exact q_bt (t := 0) (o' := 1) I (Or.inl rfl) oS (fun _ _ => rfl) e kk
  | 26, hi, e => exact q_bt (t := 0) (o' := 2) I (Or.inl rfl) oS (fun _ _ => rfl) e kk
  | 27, hi, e => exact q_bt (t := 1) (o' := 0) I (Or.inr rfl) oS (fun _ _ => rfl) e kk
  | 28, hi, e => exact q_bt (t := 1) (o' := 1) I (Or.inr rfl) oS (fun _ _ => rfl) e kk
  | 29, hi, e => exact q_bt (t := 1) (o' := 2) I (Or.inr rfl) oS (fun _ _ => rfl) e kk
  | 30, hi, e => exact q_bt (t := 0) (o' := 3) I (Or.inl rfl) oS (fun _ _ => rfl) e kk
  | 31, hi, e => exact q_bt (t := 0) (o' := 4) I (Or.inl rfl) oS (fun _ _ => rfl) e kk
  | 32, hi, e => exact q_sh (o' := 3) I oS (by decide) (fun _ _ => rfl) e kk
  | 33, hi, e => exact q_sh (o' := 4) I oS (by decide) (fun _ _ => rfl) e kk
  | 35, hi, e =>
    replace e : st1' 0 i s (fun x rest => some (zpush s rest 1 x, k)) = some (ss, k') := e
    obtain ⟨x, rest, s', hS, e1, rfl⟩ := st1'_of e
    cases e1
    rw [hS]
    exact ⟨rfl, goV I.2.1 I.2.2 (zpush_of (tag := 1) (rest := rest) I.1 rfl) (gone kk)⟩
  | 36, hi, e => exact q_un (t := 1) (t' := 0) (o' := 1) I (fun _ => rfl) e kk
  | 37, hi, e => exact q_un (t := 0) (t' := 0) (o' := 2) I (fun _ => rfl) e kk
  | 38, hi, e =>
    replace e : st1' 0 i s (fun x rest => match rdCs 2 k with
      | (cs, k) => bif zcerts s.2.2.1 cs [zpl x 128, zsb (zc 127) x] then some (zpush s rest 0 x, k) else none) = some (ss, k') := e
    obtain ⟨x, rest, s', hS, e1, rfl⟩ := st1'_of e
    split at e1
    next cs k1 e2 =>
    cases e3 : zcerts s.2.2.1 cs [zpl x 128, zsb (zc 127) x] with
    | false => rw [e3] at e1; cases e1
    | true =>
      rw [e3, cond_true] at e1
      cases e1
      have q := zcerts_of I.1.1 e3
      have q1 := q _ List.mem_cons_self
      have q2 := q _ (List.mem_cons_of_mem _ List.mem_cons_self)
      rw [zpl_v] at q1
      rw [zsb_v, zc_v] at q2
      rw [hS]
      exact ⟨rfl, ⟨by show -128 ≤ zv ρ x; omega, by show zv ρ x ≤ 127; omega⟩, goV I.2.1 I.2.2 (zpush_of (tag := 0) (rest := rest) I.1 rfl) (gone kk)⟩
  | 45, hi, e =>
    cases e
    exact gone kk ρ h (fun _ _ => rfl) ⟨I.1, I.2⟩
  | 46, hi, e =>
    replace e : (match s.2.1 with
      | u :: rest => bif Nat.beq u.1 0 then xIf 0 b a (i + 1) s u.2 (zc 0) rest k else none
      | _ => none) = some (ss, k') := e
    split at e
    · next u rest hS =>
      cases e1 : Nat.beq u.1 0 with
      | false => rw [e1] at e; cases e
      | true =>
        rw [e1, cond_true] at e
        have q := q_if I e kk
        rw [zc_v] at q
        rw [hS]
        exact ⟨beqN e1, q⟩
    · cases e
  | 47, hi, e =>
    replace e : (match s.2.1 with
      | v :: u :: rest => bif Nat.beq u.1 0 && Nat.beq v.1 0 then xIf 0 b a (i + 1) s u.2 v.2 rest k else none
      | _ => none) = some (ss, k') := e
    split at e
    · next v u rest hS =>
      cases e1 : (Nat.beq u.1 0 && Nat.beq v.1 0) with
      | false => rw [e1] at e; cases e
      | true =>
        rw [e1, cond_true] at e
        obtain ⟨b1, b2⟩ := andB e1
        rw [hS]
        exact ⟨beqN b1, beqN b2, q_if I e kk⟩
    · cases e
  | 48, hi, e =>
    replace e : (match s.2.1 with
      | v :: u :: rest => bif Nat.beq u.1 1 && Nat.beq v.1 1 then xIf 0 b a (i + 2) s u.2 v.2 rest k else none
      | _ => none) = some (ss, k') := e
    split at e
    · next v u rest hS =>
      cases e1 : (Nat.beq u.1 1 && Nat.beq v.1 1) with
      | false => rw [e1] at e; cases e
      | true =>
        rw [e1, cond_true] at e
        obtain ⟨b1, b2⟩ := andB e1
        rw [hS]
        exact ⟨beqN b1, beqN b2, q_if I e kk⟩
    · cases e
  | 49, hi, e => exact q_get tk I e kk
  | 50, hi, e => exact q_put gk tk I e kk
  | 51, hi, e => exact q_al' tk (by decide) I oS e kk
  | 52, hi, e => exact q_al' tk (by decide) I oS e kk
  | 53, hi, e =>
    clear const
    replace e : xLb T lo i s k = some (ss, k') := e
    unfold xLb at e
    split at e
    · next kd k1 _ =>
      cases e1 : (Nat.beq kd 2 || Nat.beq kd 3) with
      | false => rw [e1] at e; cases e
      | true =>
        rw [e1, cond_true] at e
        rw [Bool.or_eq_true] at e1
        have kd23 : kd = 2 ∨ kd = 3 := e1.elim (fun w => Or.inl (beqN w)) fun w => Or.inr (beqN w)
        have w := q_al' tk (by omega) I oS e kk
        obtain ⟨x, y, rest, s', hS, e2, rfl⟩ := st2'_of e
        rw [hS] at w ⊢
        have kd' : (h.2 (zv ρ x).toNat).1 = kd := w.2.2.2.1
        show (if (h.2 (zv ρ x).toNat).1 = 2 then _ else _)
        rcases kd23 with q | q
        · subst q
          rw [if_pos kd']
          exact w
        · subst q
          rw [if_neg (by rw [kd']; decide)]
          exact w
    · cases e
  | 54, hi, e => exact q_al' tk (by decide) I oS e kk
  | 55, hi, e =>
    replace e : st2' 2 0 i s (fun x y rest => xRow T lo s x y rest k) = some (ss, k') := e
    obtain ⟨x, y, rest, s', hS, e1, rfl⟩ := st2'_of e
    have hr : ∀ q ∈ rest, q ∈ s.2.1 := fun q hq => by rw [hS]; exact List.mem_cons_of_mem _ (List.mem_cons_of_mem _ hq)
    rw [hS] at oS
    have iK := i_lt (tag := 0) oS
    unfold xRow at e1
    split at e1
    · next d hd =>
      cases e2 : (zleq x.2 [] && (Nat.ble 1 d && (Nat.blt d T.1 && (Nat.beq (T.2.1 d) 6 || (Nat.beq (T.2.1 d) 7 || Nat.beq (T.2.1 d) 8))))) with
      | false => rw [e2] at e1; cases e1
      | true =>
        rw [e2, cond_true] at e1
        obtain ⟨c1, c2⟩ := andB e2
        obtain ⟨c2, c3⟩ := andB c2
        obtain ⟨c3, c4⟩ := andB c3
        have c2 := bleN c2
        have c3 := bltN c3
        have vx : zv ρ x = (d : Int) := by
          unfold zv
          rw [zleq_of c1, hd]
          exact Int.add_zero _
        have tx : (zv ρ x).toNat = d := by omega
        have q := I.2.1.1.2 d c2 c3
        have kd : T.2.1 d = 6 ∨ T.2.1 d = 7 ∨ T.2.1 d = 8 := by
          rw [Bool.or_eq_true, Bool.or_eq_true] at c4
          exact c4.imp beqN fun w => w.imp beqN beqN
        have q2 := q.2 (by rw [q.1]; omega)
        have b1 : (zv ρ x).toNat < h.1 := by
          rw [tx]
          exact Nat.lt_of_lt_of_le c3 I.2.1.1.1
        have b2 : (h.2 (zv ρ x).toNat).1 = 6 ∨ (h.2 (zv ρ x).toNat).1 = 7 ∨ (h.2 (zv ρ x).toNat).1 = 8 := by
          rw [tx, q.1]
          exact kd
        have b3 : (h.2 (zv ρ x).toNat).2.1 = T.2.2.1 d := by rw [tx, q2]
        rw [hS]
        cases w : Nat.ble 1 (T.2.2.2.2 d).2 with
        | true =>
          rw [w, cond_true] at e1
          have c6 := bleN w
          cases w2 : Nat.beq (T.2.2.1 d) (T.2.2.2.2 d).2 with
          | false => rw [w2] at e1; cases e1
          | true =>
            rw [w2, cond_true] at e1
            have c5 := beqN w2
            split at e1
            · next k1 e3 =>
              cases e1
              obtain ⟨i0, i1⟩ := zwi_of I.1.1 e3
              have i0 : 0 ≤ zv ρ y := i0
              have i1 : zv ρ y ≤ (((T.2.2.2.2 d).2 - 1 : Nat) : Int) := i1
              refine ⟨rfl, rfl, ⟨by show 0 ≤ zv ρ x; omega, b1, i0, ?_⟩, b2, ?_⟩
              · show zv ρ y < ((h.2 (zv ρ x).toNat).2.1 : Int)
                rw [b3, c5]
                omega
              · show MW K Q mc ms (pcA P (i + 1)) (zL ρ s.1) ((2, (h.2 (zv ρ x).toNat).2.2 (zv ρ y).toNat) :: zSk ρ rest) h
                have r := I.2.1.2.2 d (zv ρ y).toNat (by omega)
                rw [tx, r]
                have g := gone kk ρ h (fun _ _ => rfl) ⟨I.1, I.2⟩
                replace g : MW K Q mc ms (pcA P (i + 1)) (zL ρ s.1) ((2, zv ρ (zpl (zsm (Int.ofNat (zst T d)) y) (Int.ofNat (T.2.2.2.2 d).1))) :: zSk ρ rest) h := g
                rw [zpl_v, zsm_v] at g
                have e4 : Int.ofNat (zst T d) * zv ρ y + Int.ofNat (T.2.2.2.2 d).1 = ((T.2.2.2.2 d).1 : Int) + (zst T d : Int) * ((zv ρ y).toNat : Int) := by
                  have : Int.ofNat (T.2.2.2.2 d).1 = ((T.2.2.2.2 d).1 : Int) := rfl
                  rw [show ((zv ρ y).toNat : Int) = zv ρ y from Int.toNat_of_nonneg i0, this, Int.add_comm]
                  rfl
                rw [e4] at g
                exact g
            · cases e1
        | false =>
          rw [w, cond_false] at e1
          split at e1
          · next k1 e3 =>
            obtain ⟨i0, i1⟩ := zix_of I.1.1 e3
            rw [zc_v] at i1
            refine ⟨rfl, rfl, ⟨by show 0 ≤ zv ρ x; omega, b1, i0, ?_⟩, b2, ?_⟩
            · show zv ρ y < ((h.2 (zv ρ x).toNat).2.1 : Int)
              rw [b3]
              exact i1
            · show MW K Q mc ms (pcA P (i + 1)) (zL ρ s.1) ((2, (h.2 (zv ρ x).toNat).2.2 (zv ρ y).toNat) :: zSk ρ rest) h
              rw [← gz_at (by omega) i0 iK]
              exact goV I.2.1 I.2.2 (zrd_of I.1 hr (fun _ _ _ => noF) e1) (gone kk)
          · cases e1
    · cases e1
  | 56, hi, e => exact q_st gk tk (by decide) I oS e kk
  | 57, hi, e => exact q_st gk tk (by decide) I oS e kk
  | 58, hi, e =>
    clear const
    replace e : xSb G T M lo n i s k = some (ss, k') := e
    unfold xSb at e
    split at e
    · next kd k1 _ =>
      cases e1 : (Nat.beq kd 2 || Nat.beq kd 3) with
      | false => rw [e1] at e; cases e
      | true =>
        rw [e1, cond_true] at e
        rw [Bool.or_eq_true] at e1
        have kd23 : kd = 2 ∨ kd = 3 := e1.elim (fun w => Or.inl (beqN w)) fun w => Or.inr (beqN w)
        have w := q_st gk tk (by omega) I oS e kk
        obtain ⟨s', e2, rfl⟩ := one'_of e
        obtain ⟨v, i', r, rest, hS, _⟩ := xSt_of gk tk (by omega) I oS e2
        rw [hS] at w ⊢
        have kd' : (h.2 (zv ρ r).toNat).1 = kd := w.2.2.2.2.2.1
        show (if (h.2 (zv ρ r).toNat).1 = 2 then _ else _)
        rcases kd23 with q | q
        · subst q
          rw [if_pos kd']
          exact w
        · subst q
          rw [if_neg (by rw [kd']; decide)]
          exact w
    · cases e
  | 59, hi, e => exact q_st gk tk (by decide) I oS e kk
  | 60, hi, e =>
    clear const
    replace e : st1' 2 i s (fun x rest => xLen T s x rest k) = some (ss, k') := e
    obtain ⟨x, rest, s', hS, e1, rfl⟩ := st1'_of e
    unfold xLen at e1
    split at e1
    · next kd k1 _ =>
      cases e2 : Nat.blt kd 16 with
      | false => rw [e2] at e1; cases e1
      | true =>
        rw [e2, cond_true] at e1
        have e2 := bltN e2
        split at e1
        · next p k2 e3 =>
          split at e1
          next d k3 e5 =>
          cases e4 : zcert s.2.2.1 d (zsb (zc 2147483647) p.1) with
          | false => rw [e4] at e1; cases e1
          | true =>
            rw [e4, cond_true] at e1
            cases e1
            obtain ⟨a1, a2, a3, a4, _⟩ := zcl_of tk I.1.1 I.1.2.2.1 I.2.1 e3
            have a4 := a4 e2
            have c4 := zcert_of I.1.1 e4
            rw [zsb_v, zc_v] at c4
            rw [hS]
            refine ⟨rfl, a1, a2, ?_, ?_, ?_⟩
            · show (h.2 (zv ρ x).toNat).1 < 16
              rw [a3]; exact e2
            · show (h.2 (zv ρ x).toNat).2.1 ≤ 2147483647
              omega
            · show MW K Q mc ms (pcA P (i + 1)) (zL ρ s.1) ((0, ((h.2 (zv ρ x).toNat).2.1 : Int)) :: zSk ρ rest) h
              exact goV I.2.1 I.2.2 (zpush_of (tag := 0) (rest := rest) I.1 a4.symm) (gone kk)
        · cases e1
    · cases e1
  | 65, hi, e => exact q_sw I e kk
  | 69, hi, e => exact q_mm (t := 0) (o' := 0) I (fun _ _ => rfl) e kk
  | 70, hi, e => exact q_mm (t := 0) (o' := 1) I (fun _ _ => rfl) e kk
  | 71, hi, e => exact q_mm (t := 1) (o' := 0) I (fun _ _ => rfl) e kk
  | 72, hi, e => exact q_mm (t := 1) (o' := 1) I (fun _ _ => rfl) e kk
  | 39, hi, e => exact q_mv2 (k := k) I e kk
  | 40, hi, e => exact q_mv2 (k := k) I e kk
  | 41, hi, e => exact q_mv2 (k := k) I e kk
  | 42, hi, e => exact q_mv2 (k := k) I e kk
  | 43, hi, e => exact q_mv2 (k := k) I e kk
  | 44, hi, e => exact q_mv2 (k := k) I e kk
  | 0, hi, e => exact q_mv2 (k := k) I e kk
  | 6, hi, e => exact q_mv2 (k := k) I e kk
  | 10, hi, e => exact q_mv2 (k := k) I e kk
  | 34, hi, e => exact q_mv2 (k := k) I e kk
  | 61, hi, e => exact q_mv2 (k := k) I e kk
  | 62, hi, e => exact q_mv2 (k := k) I e kk
  | 63, hi, e => exact q_mv2 (k := k) I e kk
  | 64, hi, e => exact q_mv2 (k := k) I e kk
  | 67, hi, e => exact q_mv2 (k := k) I e kk
  | 68, hi, e => exact q_mv2 (k := k) I e kk
  | m + 73, hi, e => exact q_mv2 (k := k) (o' := m + 73) I e kk
end HS
