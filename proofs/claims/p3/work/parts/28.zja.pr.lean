/-! X0: the table and the numbers of a frame -/
theorem tbE {o W : Nat} (m : isE o W) : zKind o = 17 ∧ zKind (o + 1) = 0 ∧ W = zLen (o + 1) := by
  have b := m.b
  have t := tbX0 ((o - 197) / 2) (by omega)
  rw [show 197 + 2 * ((o - 197) / 2) = o by omega] at t
  refine ⟨t.1, t.2.1, ?_⟩
  rw [t.2.2.1]
  unfold rmX0
  rcases m with ⟨i, i1, i2, i3⟩ | ⟨j, j1, j2, j3⟩
  · rw [if_neg (by omega), if_pos (by omega)]
    exact i3
  · rw [if_neg (by omega), if_neg (by omega), if_neg (by omega)]
    exact j3
theorem sbE {h : MH} (st : StrZ zT h) {o W : Nat} (m : isE o W) : SB o W h := by
  have b := m.b
  have t := tbE m
  have s := sbX0 st ((o - 197) / 2) (by omega)
  have t2 := tbX0 ((o - 197) / 2) (by omega)
  rw [show 197 + 2 * ((o - 197) / 2) = o by omega] at s t2
  rw [show W = rmX0 ((o - 197) / 2) by rw [t.2.2, t2.2.2.1]]
  exact s
theorem ES.mk {n : Int} {h : MH} (st : StrZ zT h) (e : ga h 161 12 = n) (d : ED h) : ES n h := by
  have a := st_cell st (c := 161) (k := 16) (n := 0) (by decide +kernel)
  have b := st_cell st (c := 191) (k := 8) (n := 128) (by decide +kernel)
  have c := st_cell st (c := 193) (k := 8) (n := 6) (by decide +kernel)
  refine ⟨⟨⟨a.1, a.2.1, st_ref st (c := 161) (j := 16) (n := 191) (by decide +kernel), st_ref st (c := 161) (j := 18) (n := 193) (by decide +kernel), e⟩, b, c, fun x x0 x1 => ?_, fun x x0 x1 => ?_, fun o W m => sbE st m⟩, d⟩
  · rw [st_row st (b := 209) (n := 128) (k := 2) (by decide +kernel) ⟨x0, x1⟩]
    omega
  · rw [st_row st (b := 491) (n := 6) (k := 2) (by decide +kernel) ⟨x0, x1⟩]
    omega
theorem IS.mk {n : Int} {h : MH} (st : StrZ zT h) (e : ES n h) (m : ∀ j : Int, 0 ≤ j → j < n → 0 ≤ ga h 181 j ∧ ga h 181 j ≤ 7) : IS n h := ⟨e, st_cell st (c := 180) (k := 2) (n := 8) (by decide +kernel), st_cell st (c := 181) (k := 0) (n := 8) (by decide +kernel), ⟨st_ref st (c := 161) (j := 11) (n := 180) (by decide +kernel), st_ref st (c := 161) (j := 13) (n := 181) (by decide +kernel)⟩, m⟩
theorem st_num {h h' : MH} (st : StrZ zT h) {o W : Nat} (m : isE o W) (a : Only [o, o + 1] h h') (s : SB o W h') : StrZ zT h' := by
  have t := tbE m
  have s0 := sbE st m
  refine strz_only st a (fun c hc j n => ?_) (fun c hc => ?_)
  · simp only [List.mem_cons, List.not_mem_nil, or_false] at hc
    rcases hc with rfl | rfl
    · rw [zref17 t.1 n, s.2.2, s0.2.2]
    · exact absurd (zRef_arr (by omega)) n
  · simp only [List.mem_cons, List.not_mem_nil, or_false] at hc
    rcases hc with rfl | rfl
    · exact zrow0 (Or.inr t.1)
    · exact zrow0 (Or.inl t.2.1)
/-- the numbers that an elimination may write, and their limbs -/
theorem eCs_E {c : Nat} (hc : (209 ≤ c ∧ c ≤ 464) ∨ (491 ≤ c ∧ c ≤ 502)) : (∃ W, isE c W) ∨ ∃ o W, isE o W ∧ c = o + 1 := by
  rcases (show c % 2 = 1 ∨ c % 2 = 0 by omega) with w | w
  · refine Or.inl ?_
    rcases hc with q | q
    · exact ⟨12, Or.inl ⟨(c - 209) / 2, by omega, by omega, rfl⟩⟩
    · exact ⟨160, Or.inr ⟨(c - 491) / 2, by omega, by omega, rfl⟩⟩
  · refine Or.inr ?_
    rcases hc with q | q
    · exact ⟨c - 1, 12, Or.inl ⟨(c - 210) / 2, by omega, by omega, rfl⟩, by omega⟩
    · exact ⟨c - 1, 160, Or.inr ⟨(c - 492) / 2, by omega, by omega, rfl⟩, by omega⟩
theorem st_inv {n : Int} {h h' : MH} (st : StrZ zT h) (a : Only iCs h h') (g : IS n h') (f : ∀ j : Int, 0 ≤ j → j ≠ 10 → ga h' 161 j = ga h 161 j) : StrZ zT h' := by
  refine strz_only st a (fun c hc j nz => ?_) (fun c hc => ?_)
  · rcases mem_iCs.mp hc with rfl | rfl | q
    · by_cases w : j = 10
      · rw [w] at nz
        exact absurd (by decide +kernel : zRef 161 10 = 0) nz
      · exact f (j : Int) (by omega) (by omega)
    · exact absurd (zRef_arr (by decide +kernel)) nz
    · rcases eCs_E q with ⟨W, m⟩ | ⟨o, W, m, rfl⟩
      · rw [zref17 (tbE m).1 nz, (g.1.ob m).2.2, (sbE st m).2.2]
      · have t := (tbE m).2.1
        exact absurd (zRef_arr (by omega)) nz
  · rcases mem_iCs.mp hc with rfl | rfl | q
    · decide +kernel
    · exact zRow_low (by decide +kernel)
    · rcases eCs_E q with ⟨W, m⟩ | ⟨o, W, m, rfl⟩
      · exact zrow0 (Or.inr (tbE m).1)
      · exact zrow0 (Or.inl (tbE m).2.1)
def pCs : List Nat := 181 :: 183 :: 184 :: 185 :: 186 :: 187 :: 188 :: 189 :: 190 :: iCs
theorem mem_pCs {c : Nat} : c ∈ pCs ↔ c = 161 ∨ (180 ≤ c ∧ c ≤ 181) ∨ (183 ≤ c ∧ c ≤ 190) ∨ (209 ≤ c ∧ c ≤ 464) ∨ (491 ≤ c ∧ c ≤ 502) := by
  unfold pCs
  simp only [List.mem_cons, mem_iCs]
  omega
theorem gCs_p : ∀ c ∈ gCs, c ∈ pCs := fun c m => mem_pCs.mpr (by have := mem_gCs.mp m; omega)
theorem eCs_p : ∀ c ∈ eCs, c ∈ pCs := fun c m => mem_pCs.mpr (by have := mem_eCs.mp m; omega)
theorem iCs_p : ∀ c ∈ iCs, c ∈ pCs := fun c m => mem_pCs.mpr (by have := mem_iCs.mp m; omega)
theorem SZ0.onlyP {h h' : MH} (sz : SZ0 h) (o : Only pCs h h') (e : ga h' 161 0 = ga h 161 0) : SZ0 h' := by
  refine ⟨by rw [e]; exact sz.1, fun b b0 b1 => ?_⟩
  have nb := sR_b (b := b) ⟨b0, b1⟩
  have n : sR b ∉ pCs := fun w => by
    have := mem_pCs.mp w
    omega
  rw [o.ga n, o.ga n]
  exact sz.2 b b0 b1
theorem ED.ol {h h' : MH} {cs : List Nat} (d : ED h) (a : Only cs h h') (n : ∀ c ∈ cs, c < 209) : ED h' := fun o W m => (d o W m).ol a (fun w => by have := n _ w; have := m.b; omega) (fun w => by have := n _ w; have := m.b; omega)
/-- what an elimination starts from -/
def B9 (h : MH) (n x c : Int) : Int := if c < n then ga h (fR (ga h 181 x)) (ga h 181 c) else if c - n = x then 1 else 0
def PF (h h' : MH) : Prop := ∀ j : Int, 0 ≤ j → j ≠ 10 → j ≠ 12 → j ≠ 14 → ga h' 161 j = ga h 161 j
