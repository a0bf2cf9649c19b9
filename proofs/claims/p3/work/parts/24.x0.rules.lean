/-! more rules by hand: exclusive or, narrow kinds, an array's length, least and greatest, many ways, rows in an array -/
section
variable {K : mK} {Q : MO → MH → Prop} {mc ms : Nat} {P : MP} {o : Nat} {i pc : Nat} {zz : Int} {bb cc : Nat} {L : List (Nat × MV)} {S : List MV} {h : MH}
theorem hd_ixor (ok : okP K o P = true) {aa : Nat} {x y v : Int} (hi : P.1[i]? = some (pc, 26, zz, aa, bb, cc)) (hv : (Int32.ofInt x ^^^ Int32.ofInt y).toInt = v) (k : MW K Q mc ms (pcA P (i + 1)) L ((0, v) :: S) h) : MW K Q mc ms (pcA P i) L ((0, y) :: (0, x) :: S) h := so1 ok hi ⟨rfl, rfl, by subst hv; exact k⟩
theorem hd_lxor (ok : okP K o P = true) {aa : Nat} {x y v : Int} (hi : P.1[i]? = some (pc, 29, zz, aa, bb, cc)) (hv : (Int64.ofInt x ^^^ Int64.ofInt y).toInt = v) (k : MW K Q mc ms (pcA P (i + 1)) L ((1, v) :: S) h) : MW K Q mc ms (pcA P i) L ((1, y) :: (1, x) :: S) h := so1 ok hi ⟨rfl, rfl, by subst hv; exact k⟩
theorem hd_i2c (ok : okP K o P = true) {aa : Nat} {x : Int} (hi : P.1[i]? = some (pc, 37, zz, aa, bb, cc)) (k : MW K Q mc ms (pcA P (i + 1)) L ((0, x % 65536) :: S) h) : MW K Q mc ms (pcA P i) L ((0, x) :: S) h := so1 ok hi ⟨rfl, k⟩
theorem hd_i2b (ok : okP K o P = true) {aa : Nat} {x : Int} (hi : P.1[i]? = some (pc, 38, zz, aa, bb, cc)) (hr : -128 ≤ x ∧ x ≤ 127) (k : MW K Q mc ms (pcA P (i + 1)) L ((0, x) :: S) h) : MW K Q mc ms (pcA P i) L ((0, x) :: S) h := so1 ok hi ⟨rfl, hr, k⟩
theorem hd_alen (ok : okP K o P = true) {aa c kd n : Nat} (hi : P.1[i]? = some (pc, 60, zz, aa, bb, cc)) (hc : c < h.1 ∧ (h.2 c).1 = kd ∧ (kd < 16 → (h.2 c).2.1 = n)) (k16 : kd < 16) (hn : n ≤ 2147483647) (k : MW K Q mc ms (pcA P (i + 1)) L ((0, (n : Int)) :: S) h) : MW K Q mc ms (pcA P i) L ((2, (c : Int)) :: S) h := so1 ok hi (by
  have e := hc.2.2 k16
  refine ⟨rfl, Int.natCast_nonneg c, hc.1, ?_, ?_, ?_⟩
  · show (h.2 c).1 < 16
    rw [hc.2.1]
    exact k16
  · show (h.2 c).2.1 ≤ 2147483647
    rw [e]
    exact hn
  · show kMW K Q mc ms P (i + 1) L ((0, ((h.2 c).2.1 : Int)) :: S) h
    rw [e]
    exact k)
theorem hd_switch (ok : okP K o P = true) {aa : Nat} {x lo : Int} {dflt : Nat} {ts : List Nat} (hi : P.1[i]? = some (pc, 65, zz, aa, bb, cc)) (ht : P.2[aa]? = some (lo, dflt :: ts)) (k : ∀ (j t : Nat), ts[j]? = some t → x = lo + j → MW K Q mc ms (pcA P t) L S h) (kd : (x < lo ∨ lo + ts.length ≤ x) → MW K Q mc ms (pcA P dflt) L S h) : MW K Q mc ms (pcA P i) L ((0, x) :: S) h := so1 ok hi (by
  show sSw P.2[aa]? ((0, x) :: S) fun t S => kMW K Q mc ms P t L S h
  rw [ht]
  refine ⟨rfl, ?_⟩
  show sSw2 ts[(x - lo).toNat]? lo dflt x fun t => kMW K Q mc ms P t L S h
  cases e : ts[(x - lo).toNat]? with
  | some t =>
    show (if lo ≤ x then kMW K Q mc ms P t L S h else kMW K Q mc ms P dflt L S h)
    by_cases q : lo ≤ x
    · rw [if_pos q]
      exact k _ t e (by omega)
    · rw [if_neg q]
      exact kd (Or.inl (by omega))
  | none =>
    have n := List.getElem?_eq_none_iff.mp e
    show kMW K Q mc ms P dflt L S h
    by_cases q : x < lo
    · exact kd (Or.inl q)
    · exact kd (Or.inr (by omega)))
/-- a row of an array of rows: the reference that lies there -/
theorem hd_aald (ok : okP K o P = true) {aa c n kd : Nat} {x r : Int} (hi : P.1[i]? = some (pc, 55, zz, aa, bb, cc)) (hc : c < h.1 ∧ (h.2 c).1 = kd ∧ (kd < 16 → (h.2 c).2.1 = n)) (hk : kd = 6 ∨ kd = 7 ∨ kd = 8) (h0 : 0 ≤ x) (h1 : x < (n : Int)) (hr : ga h c x = r) (k : MW K Q mc ms (pcA P (i + 1)) L ((2, r) :: S) h) : MW K Q mc ms (pcA P i) L ((0, x) :: (2, (c : Int)) :: S) h := so1 ok hi (by
  have e := hc.2.2 (by omega)
  refine ⟨rfl, rfl, ⟨Int.natCast_nonneg c, hc.1, h0, ?_⟩, ?_, ?_⟩
  · show x < ((h.2 c).2.1 : Int)
    rw [e]
    exact h1
  · show (h.2 c).1 = 6 ∨ (h.2 c).1 = 7 ∨ (h.2 c).1 = 8
    rw [hc.2.1]
    exact hk
  · show kMW K Q mc ms P (i + 1) L ((2, (h.2 c).2.2 x.toNat) :: S) h
    have e2 : (h.2 c).2.2 x.toNat = r := hr
    rw [e2]
    exact k)
theorem hd_aret (ok : okP K o P = true) {aa : Nat} {x : Int} (hi : P.1[i]? = some (pc, 64, zz, aa, bb, cc)) (k : Q (1, (2, x)) h) : MW K Q mc ms (pcA P i) L [(2, x)] h := so1 ok hi ⟨rfl, k⟩
end
