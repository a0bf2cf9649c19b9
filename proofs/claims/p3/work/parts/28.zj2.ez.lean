/-! X0: the numbers of a frame, one cell of its grid -/
def isE (o W : Nat) : Prop := (∃ i, i < 128 ∧ o = 209 + 2 * i ∧ W = 12) ∨ (∃ j, j < 6 ∧ o = 491 + 2 * j ∧ W = 160)
def E0 (n : Int) (h : MH) : Prop := (161 < h.1 ∧ (h.2 161).1 = 16 ∧ ga h 161 16 = 191 ∧ ga h 161 18 = 193 ∧ ga h 161 12 = n) ∧ (191 < h.1 ∧ (h.2 191).1 = 8 ∧ (8 < 16 → (h.2 191).2.1 = 128)) ∧ (193 < h.1 ∧ (h.2 193).1 = 8 ∧ (8 < 16 → (h.2 193).2.1 = 6)) ∧ (∀ x : Int, 0 ≤ x → x < 128 → ga h 191 x = 209 + 2 * x) ∧ (∀ x : Int, 0 ≤ x → x < 6 → ga h 193 x = 491 + 2 * x) ∧ ∀ o W, isE o W → SB o W h
theorem E0.call {n : Int} {h h' : MH} {cs : List Nat} {l : List (Nat × Nat)} (g : E0 n h) (a : Only cs h h') (g' : G1 l h') (nn : ∀ o W, isE o W → o ∈ cs → (o, W) ∈ l) (n1 : 161 ∉ cs) (n2 : 191 ∉ cs) (n3 : 193 ∉ cs) : E0 n h' := by
  obtain ⟨⟨a1, a2, a3, a4, a5⟩, ⟨b1, b2, b3⟩, ⟨c1, c2, c3⟩, d, e, f⟩ := g
  refine ⟨⟨by rw [a.1]; exact a1, (a.2.1 161).1.trans a2, by rw [a.ga n1]; exact a3, by rw [a.ga n1]; exact a4, by rw [a.ga n1]; exact a5⟩, ⟨by rw [a.1]; exact b1, (a.2.1 191).1.trans b2, fun l => (a.2.1 191).2.trans (b3 l)⟩, ⟨by rw [a.1]; exact c1, (a.2.1 193).1.trans c2, fun l => (a.2.1 193).2.trans (c3 l)⟩, fun x x0 x1 => by rw [a.ga n2]; exact d x x0 x1, fun x x0 x1 => by rw [a.ga n3]; exact e x x0 x1, fun o W m => ?_⟩
  by_cases w : o ∈ cs
  · exact g' _ (nn o W m w)
  · exact (f o W m).only a w
/-- the place of a cell's number -/
def eC (r c : Int) : Nat := 209 + 2 * (16 * r.toNat + c.toNat)
theorem eC_E {r c : Int} (r0 : 0 ≤ r ∧ r < 8) (c0 : 0 ≤ c ∧ c < 16) : isE (eC r c) 12 := Or.inl ⟨16 * r.toNat + c.toNat, by omega, rfl, rfl⟩
theorem eC_b {r c : Int} (r0 : 0 ≤ r ∧ r < 8) (c0 : 0 ≤ c ∧ c < 16) : 209 ≤ eC r c ∧ eC r c ≤ 463 := by unfold eC; omega
theorem eC_ne {r c r' c' : Int} (r0 : 0 ≤ r ∧ r < 8) (c0 : 0 ≤ c ∧ c < 16) (r1 : 0 ≤ r' ∧ r' < 8) (c1 : 0 ≤ c' ∧ c' < 16) (w : r ≠ r' ∨ c ≠ c') : eC r c + 1 < eC r' c' ∨ eC r' c' + 1 < eC r c := by unfold eC; omega
section HR2
variable {K : mK} {Q : MO → MH → Prop} {mc ms i pc : Nat} {L : List (Nat × MV)} {h : MH} {o : Nat} {P : MP} {zz : Int} {aa bb cc : Nat}
theorem hd_rret (ok : okP K o P = true) {x : Int} (hi : P.1[i]? = some (pc, 64, zz, aa, bb, cc)) (k : Q (1, (2, x)) h) : MW K Q mc ms (pcA P i) L [(2, x)] h := so1 ok hi ⟨rfl, k⟩
theorem hd_bR {R : Int → MH → Prop} {j : Nat} {S : List MV} {K : mK} {P : MP} (k : ∀ (v : Int) (h' : MH), R v h' → MW K Q mc ms (pcA P j) L ((2, v) :: S) h') (r : MO) (h' : MH) (q : mRR R r h') : (r.1 = 0 → MW K Q mc ms (pcA P j) L S h') ∧ (r.1 = 1 → MW K Q mc ms (pcA P j) L (r.2 :: S) h') := by
  obtain ⟨a, b, c⟩ := q
  refine ⟨fun z => absurd (a.symm.trans z) (by decide), fun _ => ?_⟩
  have e : r.2 = (2, r.2.2) := by rw [← b]
  rw [e]
  exact k _ _ c
end HR2
theorem h_X0_cell {h : MH} {n r c : Int} (r0 : 0 ≤ r ∧ r < 8) (c0 : 0 ≤ c ∧ c < 16) (g : E0 n h) : MCal KX0_cell yX0_cell 0 0 [(2, ((161 : Nat) : Int)), (0, r), (0, c)] h (mRR fun v h' => v = ((eC r c : Nat) : Int) ∧ h' = h) := by
  refine MCal.ofMW (Or.inl rfl) ⟨cp_X0, rfl⟩ (Nat.le_of_ble_eq_true rfl) ?_
  generalize eQ : (mRR fun v h' => v = ((eC r c : Nat) : Int) ∧ h' = h : MO → MH → Prop) = Q
  change MW KX0_cell Q 0 0 (pcA pgX0_cell 0) [(0, (2, ((161 : Nat) : Int))), (1, (0, r)), (2, (0, c))] [] h
  refine hd_aload pkX0_cell rfl rfl (Int.natCast_nonneg _) ?_
  refine hd_getR (n := 191) pkX0_cell rfl g.1.1 g.1.2.1 g.1.2.2.1 ?_
  refine hd_iload pkX0_cell rfl rfl ?_
  refine hd_ipush (z := 2) pkX0_cell rfl ?_
  refine hd_imul pkX0_cell rfl (by omega) ?_
  refine hd_ipush (z := 8) pkX0_cell rfl ?_
  refine hd_imul pkX0_cell rfl (by omega) ?_
  refine hd_iload pkX0_cell rfl rfl ?_
  refine hd_iadd pkX0_cell rfl (by omega) ?_
  refine hd_aldR (n := 128) pkX0_cell rfl g.2.1 (Or.inr (Or.inr rfl)) (by omega) (by omega) (fun v ev => ?_)
  refine hd_rret pkX0_cell rfl ?_
  subst eQ
  refine ⟨rfl, rfl, ?_, rfl⟩
  show v = _
  rw [ev, g.2.2.2.1 _ (by omega) (by omega)]
  unfold eC
  omega
