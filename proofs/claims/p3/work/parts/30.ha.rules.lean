/-! rules: answers that are doubles, calls with room -/
def mRD (P : Int → MH → Prop) : MO → MH → Prop := fun r h' => r.1 = 1 ∧ r.2.1 = 3 ∧ P r.2.2 h'
section LW
variable {K : mK} {P : MP} {o i pc a : Nat} {zz : Int} {bb cc mc ms mc' ms' : Nat} {L : List (Nat × MV)} {S : List MV} {h : MH} {Q Qr : MO → MH → Prop}
theorem hd_pc {p1 p2 : Nat} (e : p1 = p2) (k : MW K Q mc ms p2 L S h) : MW K Q mc ms p1 L S h := by
  rw [e]
  exact k
theorem hd_bD {j : Nat} {R : Int → MH → Prop} (k : ∀ (v : Int) (h' : MH), R v h' → MW K Q mc ms (pcA P j) L ((3, v) :: S) h') (r : MO) (h' : MH) (q : mRD R r h') : (r.1 = 0 → MW K Q mc ms (pcA P j) L S h') ∧ (r.1 = 1 → MW K Q mc ms (pcA P j) L (r.2 :: S) h') := by
  obtain ⟨n, t, v⟩ := r
  obtain ⟨e1, e2, e3⟩ := q
  have e1 : n = 1 := e1
  have e2 : t = 3 := e2
  subst e1 e2
  exact ⟨fun z => absurd (show (1 : Nat) = 0 from z) (by decide), fun _ => k v h' e3⟩
/-- a method of an object is called, with room -/
theorem hd_callR (ok : okP K o P = true) {a : Nat} (hi : P.1[i]? = some (pc, 67, zz, a, bb, cc)) {q : MR} (hq : mtab[a]? = some q) (hv : q.2.2.2.2 = 0) (hf : fitB K q.1 = true) {As rest : List MV} {c : Nat} (hS : S = As.reverse ++ (2, (c : Int)) :: rest) (hn : q.2.2.2.1 = As.length) (hw : (rest.map mcat).sum ≤ 8) (hc : c < h.1) (hk : (h.2 c).1 = 16 + q.2.2.1) (hmc : mc' ≤ mc) (hms : ms' ≤ ms) {Q' : MO → MH → Prop} (hM : MCal q.1 q.2.1 mc' ms' ((2, (c : Int)) :: As) h Q')
    (kk : ∀ (r : MO) (h' : MH), Q' r h' → (r.1 = 0 → MW K Q (mc - mc') (ms - ms') (pcA P (i + 1)) L rest h') ∧ (r.1 = 1 → MW K Q (mc - mc') (ms - ms') (pcA P (i + 1)) L (r.2 :: rest) h')) : MW K Q mc ms (pcA P i) L S h := by
  have ok := okP_at ok hi
  have hp : pcA P i = pc := by
    unfold pcA
    rw [hi]
  obtain ⟨f1, f2⟩ := fitB_of hf
  have mf := mtab_ok q (List.mem_of_getElem? hq)
  obtain ⟨g1, g2, g3, g4, g5, g6⟩ := mf
  rw [hp]
  have o1 := and2 ok.1
  have d := okD_of o1.1
  obtain ⟨r', hr', hl⟩ := MT_ok o (zz.toNat, a) (List.contains_iff_mem.mp o1.2)
  have hr' : mtab[a]? = some r' := hr'
  rw [hq] at hr'
  cases hr'
  rw [← ok.2] at hl
  obtain ⟨s1, s2, T', N', s3⟩ := g6 hv
  have d2 : pc + 3 = pcA P (i + 1) := d.2
  rw [← d2] at kk
  exact m_invokevirtual d.1 f2 g1 s3 (r := (c : Int)) (Int.natCast_nonneg c) hc hk ⟨hl, s1, s2⟩ ⟨rfl, g4.1, g4.2.1, by rw [← hn]; exact g4.2.2⟩ f1 hw hS hmc hms hM kk
end LW
