/-! long scripts, in pieces: one great number divided again and again takes its length's square of room -/
def zunpC (r : List Nat) : Nat → Nat → List Nat
  | 0, _ => r
  | f + 1, n => bif Nat.beq n 0 then r else bif Nat.beq (n % 65536) 65535 then ((n / 65536) % 79228162514264337593543950336) :: zunpC r f (n / 5192296858534827628530496329220096) else (n % 65536) :: zunpC r f (n / 65536)
def zunpL (f : Nat) : List Nat → List Nat
  | [] => []
  | c :: cs => zunpC (zunpL f cs) f c
def zchkL (G : ZG) (T : ZTab) (cs : List ZCt) (c : ZCt) (l0 n : Nat) (sc : List Nat) : Bool := ctWf c && ((cAv c).all (fun v => Nat.blt v l0) && (Nat.blt c.1 821 && ((Nat.beq (kT c.1).1 0 || Nat.beq (kT c.1).1 1) && (Nat.ble (zcats (kA c)) (kT c.1).2.2.2.1 && (Nat.beq (pcA (pgT c.1) 0) 0 && (zrun G T (kMd c) (zget cs) c.1 c (pgT c.1) n (kMc c, kMs c) l0 [] 0 (pgT c.1).1 (zst0 c) (zunpL n sc)).isSome)))))
theorem zchkL_of {G : ZG} {T : ZTab} (gk : GOk G) (tk : TabOk T) {cs : List ZCt} (hcs : ∀ c ∈ cs, CtOk G T c) {c : ZCt} {l0 n : Nat} {sc : List Nat} (e : zchkL G T cs c l0 n sc = true) : CtOk G T c := by
  obtain ⟨h1, h2⟩ := andB e
  obtain ⟨h2, h3⟩ := andB h2
  obtain ⟨h3, h4⟩ := andB h3
  obtain ⟨h4, h5⟩ := andB h4
  obtain ⟨h5, h6⟩ := andB h5
  obtain ⟨h6, h7⟩ := andB h6
  refine ⟨h1, fun q hq ρ h g he hf hv hl => ?_⟩
  obtain ⟨k', hk⟩ := Option.isSome_iff_exists.mp h7
  have mf := mtab_ok q (List.mem_of_getElem? hq)
  have eK : kT c.1 = q.1 := by unfold kT; rw [hq]
  have w := zrun_of (h0 := h) (ρs := ρ) (ρ := ρ) (h := h) gk tk (fun j c hc => hcs c (zget_mem hc)) (bltN h3) h1 (fun v hv => bltN (List.all_eq_true.mp h2 v (zmem_of hv))) n hk rfl (Nat.le_refl _) (fun _ _ => rfl) ⟨⟨hf, fun _ hd => absurd hd List.not_mem_nil, fun a ha => by
    obtain ⟨x, m, rfl⟩ := List.mem_map.mp ha
    unfold zA
    rw [zx_v]
    exact he x m, fun d hd => by
    rcases List.mem_append.mp hd with hd | hd
    · obtain ⟨x, m, rfl⟩ := List.mem_map.mp hd
      have p := bltN (List.all_eq_true.mp (andB (andB (andB (andB (andB (andB h1).2).2).2).2).1).1 x m)
      match x, p, m with
      | x + 1, _, m => exact hv _ m
    · obtain ⟨b, m, rfl⟩ := List.mem_map.mp hd
      exact hl b m⟩, g, Frm.refl _ _⟩ (fun x hx => absurd hx List.not_mem_nil)
  rw [beqN h6, eK] at w
  refine MCal.ofMW ?_ ⟨mf.2.1, mf.2.2.1⟩ ?_ ?_ (fun _ => mtab_fr (List.mem_of_getElem? (by assumption)))
  · rw [eK, Bool.or_eq_true] at h4
    exact h4.elim (fun z => Or.inl (beqN z)) fun z => Or.inr (Or.inl (beqN z))
  · rw [eK] at h5
    have := bleN h5
    show ((((kA c).map fun q => (q.1, zv ρ q.2)) : List MV).map mcat).sum ≤ _
    have s : ((zSk ρ (kA c)).map mcat).sum = zcats (kA c) := zcats_of ρ (kA c)
    unfold zSk at s
    rw [s]
    exact this
  · rw [zar_of]
    exact w
