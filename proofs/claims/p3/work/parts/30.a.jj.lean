/-! what is carried from call to call: the heap's shape and all clauses -/
/-- the shape, and the clauses of a list -/
def JJ (Z : List Nat) (h : MH) : Prop := StrZ zT h ∧ ∀ k ∈ Z, zGl zG k h
/-- a contract that asks no more than what is carried, and behind which all of it holds again -/
def jok (Z : List Nat) (c : ZCt) : Bool := (kVs c).all (fun k => zmem k Z) && (Z.all (fun k => zmem k (kEV c) || (Nat.blt 0 k && zkpC zG (kMd c) 2628 (k, ([], [], [], [])))) && (kLV c).isEmpty)
theorem zGl_kp {M : List ZR} {h0 h : MH} (F : Frm M h0 h) (hn : 2628 ≤ h0.1) {k : Nat} (k0 : Nat.blt 0 k = true) (kp : zkpC zG M 2628 (k, ([], [], [], [])) = true) (B : zGl zG k h0) : zGl zG k h := by
  match k, k0, kp, B with
  | k + 1, _, kp, B => exact zCl_kp (c := (k + 1, ([], [], [], []))) (ρ := fun _ => 0) zG_ok F hn kp B
theorem JJ.frm {Z : List Nat} {c : ZCt} (b : jok Z c = true) {h h' : MH} (J : JJ Z h) (s : StrZ zT h') (F : Frm (kMd c) h h') (e : ∀ k ∈ kEV c, zGl zG k h') : JJ Z h' := by
  refine ⟨s, fun k hk => ?_⟩
  obtain ⟨b1, b2⟩ := andB b
  obtain ⟨b2, b3⟩ := andB b2
  have q := List.all_eq_true.mp b2 k hk
  rw [Bool.or_eq_true] at q
  rcases q with q | q
  · exact e k (zmem_of q)
  · obtain ⟨q1, q2⟩ := andB q
    exact zGl_kp F J.1.1.1 q1 q2 (J.2 k hk)
theorem JJ.call {Z : List Nat} {c : ZCt} (ok : CtOk zG zT c) (b : jok Z c = true) {q : MR} (hq : mtab[c.1]? = some q) {ρ : Nat → Int} {h : MH} (J : JJ Z h) (hE : ∀ e ∈ kE c, gz h (zv ρ e.1) (zv ρ e.2.1) = ρ e.2.2) (hF : ∀ f ∈ kFs c, 0 ≤ zv ρ f) :
    MCal q.1 q.2.1 (kMc c) (kMs c) ((kA c).map fun q => (q.1, zv ρ q.2)) h (fun o h' => JJ Z h' ∧ Qct zG zT c ρ h o h') := by
  obtain ⟨b1, b2⟩ := andB b
  obtain ⟨b2, b3⟩ := andB b2
  refine MCal.mono ?_ (ok.2 q hq ρ h J.1 hE hF (fun k hk => J.2 k (zmem_of (List.all_eq_true.mp b1 k hk))) (fun x hx => ?_))
  · intro o h' Qo
    have Q2 := Qo
    obtain ⟨ρ', e1, e2, e3, e4, e5, e6, e7, e8, e9⟩ := Qo
    exact ⟨J.frm b e3 e4 e8, Q2⟩
  · rw [List.isEmpty_iff.mp b3] at hx
    cases hx
