/-! Bigs of an owner: what is told of all of them -/
theorem frm_only2 {cs : List Nat} {M : List ZR} {h h' : MH} (o : Only cs h h') (f : ∀ c ∈ cs, ∀ j : Nat, j < 1099511627776 → (∀ m ∈ M, ¬ inZ m (c : Int) (j : Int)) → (h'.2 c).2.2 j = (h.2 c).2.2 j) : Frm M h h' := by
  refine ⟨Nat.le_of_eq o.1.symm, fun c _ => o.2.1 c, fun r i n => ?_⟩
  unfold gz
  by_cases p : 0 ≤ r ∧ 0 ≤ i
  · rw [if_pos p, if_pos p]
    by_cases q : i < 1099511627776
    · rw [if_pos q, if_pos q]
      by_cases m : r.toNat ∈ cs
      · refine f _ m _ (by omega) fun a ha z => n a ha ?_
        rw [Int.toNat_of_nonneg p.1, Int.toNat_of_nonneg p.2] at z
        exact z
      · rw [o.2.2 _ m]
    · rw [if_neg q, if_neg q, (o.2.1 _).1, (o.2.1 _).2, o.1]
  · rw [if_neg p, if_neg p]
theorem strz_str {c0 : Nat} {cs : List Nat} {t rf : List (Nat × Nat × Nat)} {h h' : MH} (st : StrZ zT h) (o : Only cs h h') (g : Str t rf h) (g' : Str t rf h') (a : ∀ c ∈ cs, c ≠ c0 → ∀ j, zRef c j = 0) (b : ∀ j, zRef c0 j ≠ 0 → ∃ n, (c0, j, n) ∈ rf) (z : ∀ c ∈ cs, (zRow c).2 = 0) : StrZ zT h' := by
  refine strz_only st o (fun c hc j n => ?_) z
  by_cases q : c = c0
  · subst q
    obtain ⟨m, hm⟩ := b j n
    exact (g'.2 _ hm).trans (g.2 _ hm).symm
  · exact absurd (a c hc q j) n
theorem gz_len {h : MH} {c : Nat} (hc : c < h.1) : gz h (c : Int) 1099511627777 = ((h.2 c).2.1 : Int) := by
  unfold gz
  rw [if_pos ⟨Int.natCast_nonneg _, by decide⟩, if_neg (by decide), Int.toNat_natCast]
  simp [hc]
def rmX0 : Nat → Nat := fun k => if k ≤ 5 then 160 else if k ≤ 133 then 12 else if k ≤ 146 then 24 else 160
def FBX0 (h : MH) : Prop := ∀ k : Nat, k < 153 → SB (197 + 2 * k) (rmX0 k) h ∧ (0 ≤ ga h (197 + 2 * k) 1 ∧ ga h (197 + 2 * k) 1 ≤ (rmX0 k : Int)) ∧ Dg1 (ga h (197 + 2 * k + 1)) 1099511627776 ∧ (-1 ≤ ga h (197 + 2 * k) 2 ∧ ga h (197 + 2 * k) 2 ≤ 1) ∧ ((0 ≤ k ∧ k ≤ 4) ∨ (134 ≤ k ∧ k ≤ 151) → 1 ≤ ga h (197 + 2 * k) 1 → 1 ≤ ga h (197 + 2 * k + 1) (ga h (197 + 2 * k) 1 - 1))
theorem rmX0_b (k : Nat) : rmX0 k ≤ 160 := by
  unfold rmX0
  repeat' split
  all_goals omega
theorem tbX0 : ∀ k : Nat, k < 153 → (zKind (197 + 2 * k) = 17 ∧ zKind (197 + 2 * k + 1) = 0 ∧ zLen (197 + 2 * k + 1) = rmX0 k ∧ zRef (197 + 2 * k) 0 = 197 + 2 * k + 1) := by decide +kernel
theorem sbX0 {h : MH} (st : StrZ zT h) (k : Nat) (hk : k < 153) : SB (197 + 2 * k) (rmX0 k) h := by
  obtain ⟨t1, t2, t3, t4⟩ := tbX0 k hk
  have n : 2628 ≤ h.1 := st.1.1
  obtain ⟨a1, a2⟩ := st.1.2 (197 + 2 * k) (by omega) (show 197 + 2 * k < 2628 by omega)
  obtain ⟨b1, b2⟩ := st.1.2 (197 + 2 * k + 1) (by omega) (show 197 + 2 * k + 1 < 2628 by omega)
  have a1 : (h.2 (197 + 2 * k)).1 = zKind (197 + 2 * k) := a1
  have b1 : (h.2 (197 + 2 * k + 1)).1 = zKind (197 + 2 * k + 1) := b1
  have r := st.2.1 (197 + 2 * k) 0 (by show zRef (197 + 2 * k) 0 ≠ 0; omega)
  refine ⟨⟨by omega, a1.trans t1, fun l => by omega⟩, ⟨by omega, b1.trans t2, fun _ => ?_⟩, ?_⟩
  · exact (b2 (by rw [b1, t2]; decide)).trans t3
  · rw [r]
    show ((zRef (197 + 2 * k) 0 : Nat) : Int) = _
    rw [t4]
theorem in_X0b_len {h : MH} (st : StrZ zT h) (q : zGl zG zi_X0b_len h) (k : Nat) (hk : k < 153) (g0 : 0 ≤ 0 + (1 * (k : Int) + 0)) (g1 : 0 ≤ 152 + ((-1) * (k : Int) + 0)) : 0 ≤ 0 + (1 * (ga h (197 + 2 * k) 1) + 0) ∧ 0 ≤ 0 + ((-1) * (ga h (197 + 2 * k) 1) + (1 * ((h.2 (197 + 2 * k + 1)).2.1 : Int) + 0)) := by
  have s := sbX0 st k hk
  unfold zGl at q
  rw [(zG_is (by decide +kernel : (match zG.1 zi_X0b_len with
      | some x => zBeq x ([60001, 60002, 60003], [((197, 502, 1, 1), (197, [(60001, 2)]), (1, []), (0, [(60002, 1)])), ((197, 502, 1099511627777, 1099511627777), (198, [(60001, 2)]), (1099511627777, []), (0, [(60003, 1)]))], [(0, [(60001, 1)]), (152, [(60001, (-1))])], [(0, [(60002, 1)]), (0, [(60002, (-1)), (60003, 1)])])
      | none => false) = true))] at q
  have w := q (fun v => bif Nat.beq v 60002 then (ga h (197 + 2 * k) 1) else bif Nat.beq v 60003 then ((h.2 (197 + 2 * k + 1)).2.1 : Int) else (k : Int)) (fun v => bif Nat.beq v 60002 then (ga h (197 + 2 * k) 1) else bif Nat.beq v 60003 then ((h.2 (197 + 2 * k + 1)).2.1 : Int) else (k : Int)) (fun _ _ => rfl) (List.forall_mem_cons.mpr ⟨⟨?_, ?_⟩, List.forall_mem_cons.mpr ⟨⟨?_, ?_⟩, fun _ y => absurd y List.not_mem_nil⟩⟩) (List.forall_mem_cons.mpr ⟨?_, List.forall_mem_cons.mpr ⟨?_, fun _ y => absurd y List.not_mem_nil⟩⟩)
  · have z0 : (0 : Int) ≤ 0 + (1 * (ga h (197 + 2 * k) 1) + 0) := w _ (List.mem_cons_self)
    have z1 : (0 : Int) ≤ 0 + ((-1) * (ga h (197 + 2 * k) 1) + (1 * ((h.2 (197 + 2 * k + 1)).2.1 : Int) + 0)) := w _ (List.mem_cons_of_mem _ List.mem_cons_self)
    exact ⟨z0, z1⟩
  · show inZ (197, 502, 1, 1) (197 + (2 * (k : Int) + 0)) (1 + 0)
    exact ⟨⟨by show (197 : Int) ≤ _; omega, Or.inr (by show _ ≤ (502 : Int); omega)⟩, Or.inr ⟨by show (1 : Int) ≤ _; omega, by show _ ≤ (1 : Int); omega⟩⟩
  · show gz h (197 + (2 * (k : Int) + 0)) (1 + 0) = 0 + (1 * (ga h (197 + 2 * k) 1) + 0)
    rw [show (197 + (2 * (k : Int) + 0) : Int) = (((197 + 2 * k) : Nat) : Int) by omega, show (1 + 0 : Int) = 1 by omega, ga_gz (c := (197 + 2 * k)) (i := 1) (by omega) (by omega)]
    omega
  · show inZ (197, 502, 1099511627777, 1099511627777) (198 + (2 * (k : Int) + 0)) (1099511627777 + 0)
    exact ⟨⟨by show (197 : Int) ≤ _; omega, Or.inr (by show _ ≤ (502 : Int); omega)⟩, Or.inr ⟨by show (1099511627777 : Int) ≤ _; omega, by show _ ≤ (1099511627777 : Int); omega⟩⟩
  · show gz h (198 + (2 * (k : Int) + 0)) (1099511627777 + 0) = 0 + (1 * ((h.2 (197 + 2 * k + 1)).2.1 : Int) + 0)
    rw [show (198 + (2 * (k : Int) + 0) : Int) = (((197 + 2 * k + 1) : Nat) : Int) by omega, show (1099511627777 + 0 : Int) = 1099511627777 by decide, gz_len s.2.1.1]
    omega
  · show (0 : Int) ≤ 0 + (1 * (k : Int) + 0)
    omega
  · show (0 : Int) ≤ 152 + ((-1) * (k : Int) + 0)
    omega
theorem in_X0b_sg {h : MH} (st : StrZ zT h) (q : zGl zG zi_X0b_sg h) (k : Nat) (hk : k < 153) (g0 : 0 ≤ 0 + (1 * (k : Int) + 0)) (g1 : 0 ≤ 152 + ((-1) * (k : Int) + 0)) : 0 ≤ 1 + (1 * (ga h (197 + 2 * k) 2) + 0) ∧ 0 ≤ 1 + ((-1) * (ga h (197 + 2 * k) 2) + 0) := by
  have s := sbX0 st k hk
  unfold zGl at q
  rw [(zG_is (by decide +kernel : (match zG.1 zi_X0b_sg with
      | some x => zBeq x ([60001, 60002], [((197, 502, 2, 2), (197, [(60001, 2)]), (2, []), (0, [(60002, 1)]))], [(0, [(60001, 1)]), (152, [(60001, (-1))])], [(1, [(60002, 1)]), (1, [(60002, (-1))])])
      | none => false) = true))] at q
  have w := q (fun v => bif Nat.beq v 60002 then (ga h (197 + 2 * k) 2) else (k : Int)) (fun v => bif Nat.beq v 60002 then (ga h (197 + 2 * k) 2) else (k : Int)) (fun _ _ => rfl) (List.forall_mem_cons.mpr ⟨⟨?_, ?_⟩, fun _ y => absurd y List.not_mem_nil⟩) (List.forall_mem_cons.mpr ⟨?_, List.forall_mem_cons.mpr ⟨?_, fun _ y => absurd y List.not_mem_nil⟩⟩)
  · have z0 : (0 : Int) ≤ 1 + (1 * (ga h (197 + 2 * k) 2) + 0) := w _ (List.mem_cons_self)
    have z1 : (0 : Int) ≤ 1 + ((-1) * (ga h (197 + 2 * k) 2) + 0) := w _ (List.mem_cons_of_mem _ List.mem_cons_self)
    exact ⟨z0, z1⟩
  · show inZ (197, 502, 2, 2) (197 + (2 * (k : Int) + 0)) (2 + 0)
    exact ⟨⟨by show (197 : Int) ≤ _; omega, Or.inr (by show _ ≤ (502 : Int); omega)⟩, Or.inr ⟨by show (2 : Int) ≤ _; omega, by show _ ≤ (2 : Int); omega⟩⟩
  · show gz h (197 + (2 * (k : Int) + 0)) (2 + 0) = 0 + (1 * (ga h (197 + 2 * k) 2) + 0)
    rw [show (197 + (2 * (k : Int) + 0) : Int) = (((197 + 2 * k) : Nat) : Int) by omega, show (2 + 0 : Int) = 2 by omega, ga_gz (c := (197 + 2 * k)) (i := 2) (by omega) (by omega)]
    omega
  · show (0 : Int) ≤ 0 + (1 * (k : Int) + 0)
    omega
  · show (0 : Int) ≤ 152 + ((-1) * (k : Int) + 0)
    omega
theorem in_X0b_lb {h : MH} (st : StrZ zT h) (q : zGl zG zi_X0b_lb h) (k : Nat) (hk : k < 153) (i : Int) (g0 : 0 ≤ 0 + (1 * (k : Int) + 0)) (g1 : 0 ≤ 152 + ((-1) * (k : Int) + 0)) (g2 : 0 ≤ 0 + (1 * i + 0)) (ib : i < 1099511627776) : 0 ≤ 0 + (1 * (ga h (197 + 2 * k + 1) i) + 0) ∧ 0 ≤ 1073741823 + ((-1) * (ga h (197 + 2 * k + 1) i) + 0) := by
  have s := sbX0 st k hk
  unfold zGl at q
  rw [(zG_is (by decide +kernel : (match zG.1 zi_X0b_lb with
      | some x => zBeq x ([60001, 60002, 60004], [((197, 502, 0, 1099511627775), (198, [(60001, 2)]), (0, [(60004, 1)]), (0, [(60002, 1)]))], [(0, [(60001, 1)]), (152, [(60001, (-1))]), (0, [(60004, 1)])], [(0, [(60002, 1)]), (1073741823, [(60002, (-1))])])
      | none => false) = true))] at q
  have w := q (fun v => bif Nat.beq v 60002 then (ga h (197 + 2 * k + 1) i) else bif Nat.beq v 60004 then i else (k : Int)) (fun v => bif Nat.beq v 60002 then (ga h (197 + 2 * k + 1) i) else bif Nat.beq v 60004 then i else (k : Int)) (fun _ _ => rfl) (List.forall_mem_cons.mpr ⟨⟨?_, ?_⟩, fun _ y => absurd y List.not_mem_nil⟩) (List.forall_mem_cons.mpr ⟨?_, List.forall_mem_cons.mpr ⟨?_, List.forall_mem_cons.mpr ⟨?_, fun _ y => absurd y List.not_mem_nil⟩⟩⟩)
  · have z0 : (0 : Int) ≤ 0 + (1 * (ga h (197 + 2 * k + 1) i) + 0) := w _ (List.mem_cons_self)
    have z1 : (0 : Int) ≤ 1073741823 + ((-1) * (ga h (197 + 2 * k + 1) i) + 0) := w _ (List.mem_cons_of_mem _ List.mem_cons_self)
    exact ⟨z0, z1⟩
  · show inZ (197, 502, 0, 1099511627775) (198 + (2 * (k : Int) + 0)) (0 + (1 * i + 0))
    exact ⟨⟨by show (197 : Int) ≤ _; omega, Or.inr (by show _ ≤ (502 : Int); omega)⟩, Or.inr ⟨by show (0 : Int) ≤ _; omega, by show _ ≤ (1099511627775 : Int); omega⟩⟩
  · show gz h (198 + (2 * (k : Int) + 0)) (0 + (1 * i + 0)) = 0 + (1 * (ga h (197 + 2 * k + 1) i) + 0)
    rw [show (198 + (2 * (k : Int) + 0) : Int) = (((197 + 2 * k + 1) : Nat) : Int) by omega, show (0 + (1 * i + 0) : Int) = i by omega, ga_gz (c := (197 + 2 * k + 1)) (i := i) (by omega) (by omega)]
    omega
  · show (0 : Int) ≤ 0 + (1 * (k : Int) + 0)
    omega
  · show (0 : Int) ≤ 152 + ((-1) * (k : Int) + 0)
    omega
  · show (0 : Int) ≤ 0 + (1 * i + 0)
    omega
theorem in_X0b_top0 {h : MH} (st : StrZ zT h) (q : zGl zG zi_X0b_top0 h) (k : Nat) (hk : k < 153) (g0 : 0 ≤ 0 + (1 * (k : Int) + 0)) (g1 : 0 ≤ 4 + ((-1) * (k : Int) + 0)) (g2 : 0 ≤ (-1) + (1 * (ga h (197 + 2 * k) 1) + 0)) (ib1 : ((ga h (197 + 2 * k) 1) - 1) < 1099511627776) : 0 ≤ (-1) + (1 * (ga h (197 + 2 * k + 1) ((ga h (197 + 2 * k) 1) - 1)) + 0) := by
  have s := sbX0 st k hk
  unfold zGl at q
  rw [(zG_is (by decide +kernel : (match zG.1 zi_X0b_top0 with
      | some x => zBeq x ([60001, 60002, 60003], [((197, 502, 1, 1), (197, [(60001, 2)]), (1, []), (0, [(60002, 1)])), ((197, 502, 0, 1099511627775), (198, [(60001, 2)]), ((-1), [(60002, 1)]), (0, [(60003, 1)]))], [(0, [(60001, 1)]), (4, [(60001, (-1))]), ((-1), [(60002, 1)])], [((-1), [(60003, 1)])])
      | none => false) = true))] at q
  have w := q (fun v => bif Nat.beq v 60002 then (ga h (197 + 2 * k) 1) else bif Nat.beq v 60003 then (ga h (197 + 2 * k + 1) ((ga h (197 + 2 * k) 1) - 1)) else (k : Int)) (fun v => bif Nat.beq v 60002 then (ga h (197 + 2 * k) 1) else bif Nat.beq v 60003 then (ga h (197 + 2 * k + 1) ((ga h (197 + 2 * k) 1) - 1)) else (k : Int)) (fun _ _ => rfl) (List.forall_mem_cons.mpr ⟨⟨?_, ?_⟩, List.forall_mem_cons.mpr ⟨⟨?_, ?_⟩, fun _ y => absurd y List.not_mem_nil⟩⟩) (List.forall_mem_cons.mpr ⟨?_, List.forall_mem_cons.mpr ⟨?_, List.forall_mem_cons.mpr ⟨?_, fun _ y => absurd y List.not_mem_nil⟩⟩⟩)
  · have z0 : (0 : Int) ≤ (-1) + (1 * (ga h (197 + 2 * k + 1) ((ga h (197 + 2 * k) 1) - 1)) + 0) := w _ (List.mem_cons_self)
    exact z0
  · show inZ (197, 502, 1, 1) (197 + (2 * (k : Int) + 0)) (1 + 0)
    exact ⟨⟨by show (197 : Int) ≤ _; omega, Or.inr (by show _ ≤ (502 : Int); omega)⟩, Or.inr ⟨by show (1 : Int) ≤ _; omega, by show _ ≤ (1 : Int); omega⟩⟩
  · show gz h (197 + (2 * (k : Int) + 0)) (1 + 0) = 0 + (1 * (ga h (197 + 2 * k) 1) + 0)
    rw [show (197 + (2 * (k : Int) + 0) : Int) = (((197 + 2 * k) : Nat) : Int) by omega, show (1 + 0 : Int) = 1 by omega, ga_gz (c := (197 + 2 * k)) (i := 1) (by omega) (by omega)]
    omega
  · show inZ (197, 502, 0, 1099511627775) (198 + (2 * (k : Int) + 0)) ((-1) + (1 * (ga h (197 + 2 * k) 1) + 0))
    exact ⟨⟨by show (197 : Int) ≤ _; omega, Or.inr (by show _ ≤ (502 : Int); omega)⟩, Or.inr ⟨by show (0 : Int) ≤ _; omega, by show _ ≤ (1099511627775 : Int); omega⟩⟩
  · show gz h (198 + (2 * (k : Int) + 0)) ((-1) + (1 * (ga h (197 + 2 * k) 1) + 0)) = 0 + (1 * (ga h (197 + 2 * k + 1) ((ga h (197 + 2 * k) 1) - 1)) + 0)
    rw [show (198 + (2 * (k : Int) + 0) : Int) = (((197 + 2 * k + 1) : Nat) : Int) by omega, show ((-1) + (1 * (ga h (197 + 2 * k) 1) + 0) : Int) = ((ga h (197 + 2 * k) 1) - 1) by omega, ga_gz (c := (197 + 2 * k + 1)) (i := ((ga h (197 + 2 * k) 1) - 1)) (by omega) (by omega)]
    omega
  · show (0 : Int) ≤ 0 + (1 * (k : Int) + 0)
    omega
  · show (0 : Int) ≤ 4 + ((-1) * (k : Int) + 0)
    omega
  · show (0 : Int) ≤ (-1) + (1 * (ga h (197 + 2 * k) 1) + 0)
    omega
theorem in_X0b_top1 {h : MH} (st : StrZ zT h) (q : zGl zG zi_X0b_top1 h) (k : Nat) (hk : k < 153) (g0 : 0 ≤ (-134) + (1 * (k : Int) + 0)) (g1 : 0 ≤ 151 + ((-1) * (k : Int) + 0)) (g2 : 0 ≤ (-1) + (1 * (ga h (197 + 2 * k) 1) + 0)) (ib1 : ((ga h (197 + 2 * k) 1) - 1) < 1099511627776) : 0 ≤ (-1) + (1 * (ga h (197 + 2 * k + 1) ((ga h (197 + 2 * k) 1) - 1)) + 0) := by
  have s := sbX0 st k hk
  unfold zGl at q
  rw [(zG_is (by decide +kernel : (match zG.1 zi_X0b_top1 with
      | some x => zBeq x ([60001, 60002, 60003], [((197, 502, 1, 1), (197, [(60001, 2)]), (1, []), (0, [(60002, 1)])), ((197, 502, 0, 1099511627775), (198, [(60001, 2)]), ((-1), [(60002, 1)]), (0, [(60003, 1)]))], [((-134), [(60001, 1)]), (151, [(60001, (-1))]), ((-1), [(60002, 1)])], [((-1), [(60003, 1)])])
      | none => false) = true))] at q
  have w := q (fun v => bif Nat.beq v 60002 then (ga h (197 + 2 * k) 1) else bif Nat.beq v 60003 then (ga h (197 + 2 * k + 1) ((ga h (197 + 2 * k) 1) - 1)) else (k : Int)) (fun v => bif Nat.beq v 60002 then (ga h (197 + 2 * k) 1) else bif Nat.beq v 60003 then (ga h (197 + 2 * k + 1) ((ga h (197 + 2 * k) 1) - 1)) else (k : Int)) (fun _ _ => rfl) (List.forall_mem_cons.mpr ⟨⟨?_, ?_⟩, List.forall_mem_cons.mpr ⟨⟨?_, ?_⟩, fun _ y => absurd y List.not_mem_nil⟩⟩) (List.forall_mem_cons.mpr ⟨?_, List.forall_mem_cons.mpr ⟨?_, List.forall_mem_cons.mpr ⟨?_, fun _ y => absurd y List.not_mem_nil⟩⟩⟩)
  · have z0 : (0 : Int) ≤ (-1) + (1 * (ga h (197 + 2 * k + 1) ((ga h (197 + 2 * k) 1) - 1)) + 0) := w _ (List.mem_cons_self)
    exact z0
  · show inZ (197, 502, 1, 1) (197 + (2 * (k : Int) + 0)) (1 + 0)
    exact ⟨⟨by show (197 : Int) ≤ _; omega, Or.inr (by show _ ≤ (502 : Int); omega)⟩, Or.inr ⟨by show (1 : Int) ≤ _; omega, by show _ ≤ (1 : Int); omega⟩⟩
  · show gz h (197 + (2 * (k : Int) + 0)) (1 + 0) = 0 + (1 * (ga h (197 + 2 * k) 1) + 0)
    rw [show (197 + (2 * (k : Int) + 0) : Int) = (((197 + 2 * k) : Nat) : Int) by omega, show (1 + 0 : Int) = 1 by omega, ga_gz (c := (197 + 2 * k)) (i := 1) (by omega) (by omega)]
    omega
  · show inZ (197, 502, 0, 1099511627775) (198 + (2 * (k : Int) + 0)) ((-1) + (1 * (ga h (197 + 2 * k) 1) + 0))
    exact ⟨⟨by show (197 : Int) ≤ _; omega, Or.inr (by show _ ≤ (502 : Int); omega)⟩, Or.inr ⟨by show (0 : Int) ≤ _; omega, by show _ ≤ (1099511627775 : Int); omega⟩⟩
  · show gz h (198 + (2 * (k : Int) + 0)) ((-1) + (1 * (ga h (197 + 2 * k) 1) + 0)) = 0 + (1 * (ga h (197 + 2 * k + 1) ((ga h (197 + 2 * k) 1) - 1)) + 0)
    rw [show (198 + (2 * (k : Int) + 0) : Int) = (((197 + 2 * k + 1) : Nat) : Int) by omega, show ((-1) + (1 * (ga h (197 + 2 * k) 1) + 0) : Int) = ((ga h (197 + 2 * k) 1) - 1) by omega, ga_gz (c := (197 + 2 * k + 1)) (i := ((ga h (197 + 2 * k) 1) - 1)) (by omega) (by omega)]
    omega
  · show (0 : Int) ≤ (-134) + (1 * (k : Int) + 0)
    omega
  · show (0 : Int) ≤ 151 + ((-1) * (k : Int) + 0)
    omega
  · show (0 : Int) ≤ (-1) + (1 * (ga h (197 + 2 * k) 1) + 0)
    omega
theorem FBX0.of {h : MH} (st : StrZ zT h) (c1 : zGl zG zi_X0b_len h) (c2 : zGl zG zi_X0b_sg h) (c3 : zGl zG zi_X0b_lb h) (c4 : zGl zG zi_X0b_top0 h) (c5 : zGl zG zi_X0b_top1 h) : FBX0 h := fun k hk => by
  have s := sbX0 st k hk
  have a := in_X0b_len st c1 k hk (by omega) (by omega)
  have b := in_X0b_sg st c2 k hk (by omega) (by omega)
  have r9 := rmX0_b k
  have l9 := s.2.1.2.2 (by decide)
  refine ⟨s, by omega, fun j j0 j1 => ?_, by omega, fun t q => ?_⟩
  · have := in_X0b_lb st c3 k hk j (by omega) (by omega) (by omega) j1
    omega
  · rcases t with t | t
    · have := in_X0b_top0 st c4 k hk (by omega) (by omega) (by omega) (by omega)
      omega
    · have := in_X0b_top1 st c5 k hk (by omega) (by omega) (by omega) (by omega)
      omega
theorem out_X0b_rf {h : MH} (st : StrZ zT h) (f : FBX0 h) : zGl zG zi_X0b_rf h := by
  unfold zGl
  rw [(zG_is (by decide +kernel : (match zG.1 zi_X0b_rf with
      | some x => zBeq x ([60001, 60002], [((197, 502, 0, 0), (197, [(60001, 2)]), (0, []), (0, [(60002, 1)]))], [(0, [(60001, 1)]), (152, [(60001, (-1))])], [((-198), [(60001, (-2)), (60002, 1)]), (198, [(60001, 2), (60002, (-1))])])
      | none => false) = true))]
  intro ρ β _ hE hG c hc
  have g0 : (0 : Int) ≤ 0 + (1 * β 60001 + 0) := hG _ (List.mem_cons_self)
  have g1 : (0 : Int) ≤ 152 + ((-1) * β 60001 + 0) := hG _ (List.mem_cons_of_mem _ List.mem_cons_self)
  obtain ⟨k, ek⟩ : ∃ k : Nat, β 60001 = (k : Int) := ⟨(β 60001).toNat, by omega⟩
  have hk : k < 153 := by omega
  obtain ⟨s, l, d, sg, tp⟩ := f k hk
  have i0 : inZ (197, 502, 0, 0) (197 + (2 * β 60001 + 0)) (0 + 0) := (hE _ (List.mem_cons_self)).1
  have w0 : gz h (197 + (2 * β 60001 + 0)) (0 + 0) = 0 + (1 * β 60002 + 0) := (hE _ (List.mem_cons_self)).2
  rw [show (197 + (2 * β 60001 + 0) : Int) = (((197 + 2 * k) : Nat) : Int) by omega, show (0 + 0 : Int) = 0 by omega, ga_gz (c := (197 + 2 * k)) (i := 0) (by omega) (by have := rmX0_b k; omega)] at w0
  have rr := s.2.2
  have rr : ga h (197 + 2 * k) 0 = ((197 + 2 * k + 1 : Nat) : Int) := rr
  simp only [List.mem_cons, List.not_mem_nil, or_false] at hc
  rcases hc with rfl | rfl
  · show (0 : Int) ≤ (-198) + ((-2) * β 60001 + (1 * β 60002 + 0))
    omega
  · show (0 : Int) ≤ 198 + (2 * β 60001 + ((-1) * β 60002 + 0))
    omega
theorem out_X0b_len {h : MH} (st : StrZ zT h) (f : FBX0 h) : zGl zG zi_X0b_len h := by
  unfold zGl
  rw [(zG_is (by decide +kernel : (match zG.1 zi_X0b_len with
      | some x => zBeq x ([60001, 60002, 60003], [((197, 502, 1, 1), (197, [(60001, 2)]), (1, []), (0, [(60002, 1)])), ((197, 502, 1099511627777, 1099511627777), (198, [(60001, 2)]), (1099511627777, []), (0, [(60003, 1)]))], [(0, [(60001, 1)]), (152, [(60001, (-1))])], [(0, [(60002, 1)]), (0, [(60002, (-1)), (60003, 1)])])
      | none => false) = true))]
  intro ρ β _ hE hG c hc
  have g0 : (0 : Int) ≤ 0 + (1 * β 60001 + 0) := hG _ (List.mem_cons_self)
  have g1 : (0 : Int) ≤ 152 + ((-1) * β 60001 + 0) := hG _ (List.mem_cons_of_mem _ List.mem_cons_self)
  obtain ⟨k, ek⟩ : ∃ k : Nat, β 60001 = (k : Int) := ⟨(β 60001).toNat, by omega⟩
  have hk : k < 153 := by omega
  obtain ⟨s, l, d, sg, tp⟩ := f k hk
  have i0 : inZ (197, 502, 1, 1) (197 + (2 * β 60001 + 0)) (1 + 0) := (hE _ (List.mem_cons_self)).1
  have w0 : gz h (197 + (2 * β 60001 + 0)) (1 + 0) = 0 + (1 * β 60002 + 0) := (hE _ (List.mem_cons_self)).2
  rw [show (197 + (2 * β 60001 + 0) : Int) = (((197 + 2 * k) : Nat) : Int) by omega, show (1 + 0 : Int) = 1 by omega, ga_gz (c := (197 + 2 * k)) (i := 1) (by omega) (by have := rmX0_b k; omega)] at w0
  have i1 : inZ (197, 502, 1099511627777, 1099511627777) (198 + (2 * β 60001 + 0)) (1099511627777 + 0) := (hE _ (List.mem_cons_of_mem _ List.mem_cons_self)).1
  have w1 : gz h (198 + (2 * β 60001 + 0)) (1099511627777 + 0) = 0 + (1 * β 60003 + 0) := (hE _ (List.mem_cons_of_mem _ List.mem_cons_self)).2
  rw [show (198 + (2 * β 60001 + 0) : Int) = (((197 + 2 * k + 1) : Nat) : Int) by omega, show (1099511627777 + 0 : Int) = 1099511627777 by decide, gz_len s.2.1.1, s.2.1.2.2 (by decide)] at w1
  simp only [List.mem_cons, List.not_mem_nil, or_false] at hc
  rcases hc with rfl | rfl
  · show (0 : Int) ≤ 0 + (1 * β 60002 + 0)
    omega
  · show (0 : Int) ≤ 0 + ((-1) * β 60002 + (1 * β 60003 + 0))
    omega
theorem out_X0b_sg {h : MH} (st : StrZ zT h) (f : FBX0 h) : zGl zG zi_X0b_sg h := by
  unfold zGl
  rw [(zG_is (by decide +kernel : (match zG.1 zi_X0b_sg with
      | some x => zBeq x ([60001, 60002], [((197, 502, 2, 2), (197, [(60001, 2)]), (2, []), (0, [(60002, 1)]))], [(0, [(60001, 1)]), (152, [(60001, (-1))])], [(1, [(60002, 1)]), (1, [(60002, (-1))])])
      | none => false) = true))]
  intro ρ β _ hE hG c hc
  have g0 : (0 : Int) ≤ 0 + (1 * β 60001 + 0) := hG _ (List.mem_cons_self)
  have g1 : (0 : Int) ≤ 152 + ((-1) * β 60001 + 0) := hG _ (List.mem_cons_of_mem _ List.mem_cons_self)
  obtain ⟨k, ek⟩ : ∃ k : Nat, β 60001 = (k : Int) := ⟨(β 60001).toNat, by omega⟩
  have hk : k < 153 := by omega
  obtain ⟨s, l, d, sg, tp⟩ := f k hk
  have i0 : inZ (197, 502, 2, 2) (197 + (2 * β 60001 + 0)) (2 + 0) := (hE _ (List.mem_cons_self)).1
  have w0 : gz h (197 + (2 * β 60001 + 0)) (2 + 0) = 0 + (1 * β 60002 + 0) := (hE _ (List.mem_cons_self)).2
  rw [show (197 + (2 * β 60001 + 0) : Int) = (((197 + 2 * k) : Nat) : Int) by omega, show (2 + 0 : Int) = 2 by omega, ga_gz (c := (197 + 2 * k)) (i := 2) (by omega) (by have := rmX0_b k; omega)] at w0
  simp only [List.mem_cons, List.not_mem_nil, or_false] at hc
  rcases hc with rfl | rfl
  · show (0 : Int) ≤ 1 + (1 * β 60002 + 0)
    omega
  · show (0 : Int) ≤ 1 + ((-1) * β 60002 + 0)
    omega
theorem out_X0b_lb {h : MH} (st : StrZ zT h) (f : FBX0 h) : zGl zG zi_X0b_lb h := by
  unfold zGl
  rw [(zG_is (by decide +kernel : (match zG.1 zi_X0b_lb with
      | some x => zBeq x ([60001, 60002, 60004], [((197, 502, 0, 1099511627775), (198, [(60001, 2)]), (0, [(60004, 1)]), (0, [(60002, 1)]))], [(0, [(60001, 1)]), (152, [(60001, (-1))]), (0, [(60004, 1)])], [(0, [(60002, 1)]), (1073741823, [(60002, (-1))])])
      | none => false) = true))]
  intro ρ β _ hE hG c hc
  have g0 : (0 : Int) ≤ 0 + (1 * β 60001 + 0) := hG _ (List.mem_cons_self)
  have g1 : (0 : Int) ≤ 152 + ((-1) * β 60001 + 0) := hG _ (List.mem_cons_of_mem _ List.mem_cons_self)
  have g2 : (0 : Int) ≤ 0 + (1 * β 60004 + 0) := hG _ (List.mem_cons_of_mem _ (List.mem_cons_of_mem _ List.mem_cons_self))
  obtain ⟨k, ek⟩ : ∃ k : Nat, β 60001 = (k : Int) := ⟨(β 60001).toNat, by omega⟩
  have hk : k < 153 := by omega
  obtain ⟨s, l, d, sg, tp⟩ := f k hk
  obtain ⟨i, ei⟩ : ∃ i : Int, i = β 60004 := ⟨_, rfl⟩
  have i0 : inZ (197, 502, 0, 1099511627775) (198 + (2 * β 60001 + 0)) (0 + (1 * β 60004 + 0)) := (hE _ (List.mem_cons_self)).1
  have w0 : gz h (198 + (2 * β 60001 + 0)) (0 + (1 * β 60004 + 0)) = 0 + (1 * β 60002 + 0) := (hE _ (List.mem_cons_self)).2
  have ib : i < 1099511627776 := by
    rcases i0.2 with q | q
    · exact absurd q (by decide)
    · have q2 : (0 + (1 * β 60004 + 0) : Int) ≤ 1099511627775 := q.2
      omega
  rw [show (198 + (2 * β 60001 + 0) : Int) = (((197 + 2 * k + 1) : Nat) : Int) by omega, show (0 + (1 * β 60004 + 0) : Int) = i by omega, ga_gz (c := (197 + 2 * k + 1)) (i := i) (by omega) (by have := rmX0_b k; omega)] at w0
  have dd := d i (by omega) ib
  simp only [List.mem_cons, List.not_mem_nil, or_false] at hc
  rcases hc with rfl | rfl
  · show (0 : Int) ≤ 0 + (1 * β 60002 + 0)
    omega
  · show (0 : Int) ≤ 1073741823 + ((-1) * β 60002 + 0)
    omega
theorem out_X0b_top0 {h : MH} (st : StrZ zT h) (f : FBX0 h) : zGl zG zi_X0b_top0 h := by
  unfold zGl
  rw [(zG_is (by decide +kernel : (match zG.1 zi_X0b_top0 with
      | some x => zBeq x ([60001, 60002, 60003], [((197, 502, 1, 1), (197, [(60001, 2)]), (1, []), (0, [(60002, 1)])), ((197, 502, 0, 1099511627775), (198, [(60001, 2)]), ((-1), [(60002, 1)]), (0, [(60003, 1)]))], [(0, [(60001, 1)]), (4, [(60001, (-1))]), ((-1), [(60002, 1)])], [((-1), [(60003, 1)])])
      | none => false) = true))]
  intro ρ β _ hE hG c hc
  have g0 : (0 : Int) ≤ 0 + (1 * β 60001 + 0) := hG _ (List.mem_cons_self)
  have g1 : (0 : Int) ≤ 4 + ((-1) * β 60001 + 0) := hG _ (List.mem_cons_of_mem _ List.mem_cons_self)
  have g2 : (0 : Int) ≤ (-1) + (1 * β 60002 + 0) := hG _ (List.mem_cons_of_mem _ (List.mem_cons_of_mem _ List.mem_cons_self))
  obtain ⟨k, ek⟩ : ∃ k : Nat, β 60001 = (k : Int) := ⟨(β 60001).toNat, by omega⟩
  have hk : k < 153 := by omega
  obtain ⟨s, l, d, sg, tp⟩ := f k hk
  have i0 : inZ (197, 502, 1, 1) (197 + (2 * β 60001 + 0)) (1 + 0) := (hE _ (List.mem_cons_self)).1
  have w0 : gz h (197 + (2 * β 60001 + 0)) (1 + 0) = 0 + (1 * β 60002 + 0) := (hE _ (List.mem_cons_self)).2
  rw [show (197 + (2 * β 60001 + 0) : Int) = (((197 + 2 * k) : Nat) : Int) by omega, show (1 + 0 : Int) = 1 by omega, ga_gz (c := (197 + 2 * k)) (i := 1) (by omega) (by have := rmX0_b k; omega)] at w0
  have i1 : inZ (197, 502, 0, 1099511627775) (198 + (2 * β 60001 + 0)) ((-1) + (1 * β 60002 + 0)) := (hE _ (List.mem_cons_of_mem _ List.mem_cons_self)).1
  have w1 : gz h (198 + (2 * β 60001 + 0)) ((-1) + (1 * β 60002 + 0)) = 0 + (1 * β 60003 + 0) := (hE _ (List.mem_cons_of_mem _ List.mem_cons_self)).2
  have b1 : β 60002 = ga h (197 + 2 * k) 1 := by omega
  rw [show (198 + (2 * β 60001 + 0) : Int) = (((197 + 2 * k + 1) : Nat) : Int) by omega, show ((-1) + (1 * β 60002 + 0) : Int) = (ga h (197 + 2 * k) 1 - 1) by omega, ga_gz (c := (197 + 2 * k + 1)) (i := (ga h (197 + 2 * k) 1 - 1)) (by omega) (by have := rmX0_b k; omega)] at w1
  have tt := tp (Or.inl (by omega)) (by omega)
  simp only [List.mem_cons, List.not_mem_nil, or_false] at hc
  subst hc
  · show (0 : Int) ≤ (-1) + (1 * β 60003 + 0)
    omega
theorem out_X0b_top1 {h : MH} (st : StrZ zT h) (f : FBX0 h) : zGl zG zi_X0b_top1 h := by
  unfold zGl
  rw [(zG_is (by decide +kernel : (match zG.1 zi_X0b_top1 with
      | some x => zBeq x ([60001, 60002, 60003], [((197, 502, 1, 1), (197, [(60001, 2)]), (1, []), (0, [(60002, 1)])), ((197, 502, 0, 1099511627775), (198, [(60001, 2)]), ((-1), [(60002, 1)]), (0, [(60003, 1)]))], [((-134), [(60001, 1)]), (151, [(60001, (-1))]), ((-1), [(60002, 1)])], [((-1), [(60003, 1)])])
      | none => false) = true))]
  intro ρ β _ hE hG c hc
  have g0 : (0 : Int) ≤ (-134) + (1 * β 60001 + 0) := hG _ (List.mem_cons_self)
  have g1 : (0 : Int) ≤ 151 + ((-1) * β 60001 + 0) := hG _ (List.mem_cons_of_mem _ List.mem_cons_self)
  have g2 : (0 : Int) ≤ (-1) + (1 * β 60002 + 0) := hG _ (List.mem_cons_of_mem _ (List.mem_cons_of_mem _ List.mem_cons_self))
  obtain ⟨k, ek⟩ : ∃ k : Nat, β 60001 = (k : Int) := ⟨(β 60001).toNat, by omega⟩
  have hk : k < 153 := by omega
  obtain ⟨s, l, d, sg, tp⟩ := f k hk
  have i0 : inZ (197, 502, 1, 1) (197 + (2 * β 60001 + 0)) (1 + 0) := (hE _ (List.mem_cons_self)).1
  have w0 : gz h (197 + (2 * β 60001 + 0)) (1 + 0) = 0 + (1 * β 60002 + 0) := (hE _ (List.mem_cons_self)).2
  rw [show (197 + (2 * β 60001 + 0) : Int) = (((197 + 2 * k) : Nat) : Int) by omega, show (1 + 0 : Int) = 1 by omega, ga_gz (c := (197 + 2 * k)) (i := 1) (by omega) (by have := rmX0_b k; omega)] at w0
  have i1 : inZ (197, 502, 0, 1099511627775) (198 + (2 * β 60001 + 0)) ((-1) + (1 * β 60002 + 0)) := (hE _ (List.mem_cons_of_mem _ List.mem_cons_self)).1
  have w1 : gz h (198 + (2 * β 60001 + 0)) ((-1) + (1 * β 60002 + 0)) = 0 + (1 * β 60003 + 0) := (hE _ (List.mem_cons_of_mem _ List.mem_cons_self)).2
  have b1 : β 60002 = ga h (197 + 2 * k) 1 := by omega
  rw [show (198 + (2 * β 60001 + 0) : Int) = (((197 + 2 * k + 1) : Nat) : Int) by omega, show ((-1) + (1 * β 60002 + 0) : Int) = (ga h (197 + 2 * k) 1 - 1) by omega, ga_gz (c := (197 + 2 * k + 1)) (i := (ga h (197 + 2 * k) 1 - 1)) (by omega) (by have := rmX0_b k; omega)] at w1
  have tt := tp (Or.inr (by omega)) (by omega)
  simp only [List.mem_cons, List.not_mem_nil, or_false] at hc
  subst hc
  · show (0 : Int) ≤ (-1) + (1 * β 60003 + 0)
    omega
def rmX9 : Nat → Nat := fun k => if k ≤ 13 then 64 else 16
def FBX9 (h : MH) : Prop := ∀ k : Nat, k < 28 → SB (562 + 2 * k) (rmX9 k) h ∧ (0 ≤ ga h (562 + 2 * k) 1 ∧ ga h (562 + 2 * k) 1 ≤ (rmX9 k : Int)) ∧ Dg1 (ga h (562 + 2 * k + 1)) 1099511627776 ∧ (-1 ≤ ga h (562 + 2 * k) 2 ∧ ga h (562 + 2 * k) 2 ≤ 1) ∧ ((0 ≤ k ∧ k ≤ 4) ∨ (6 ≤ k ∧ k ≤ 13) → 1 ≤ ga h (562 + 2 * k) 1 → 1 ≤ ga h (562 + 2 * k + 1) (ga h (562 + 2 * k) 1 - 1))
theorem rmX9_b (k : Nat) : rmX9 k ≤ 160 := by
  unfold rmX9
  repeat' split
  all_goals omega
theorem tbX9 : ∀ k : Nat, k < 28 → (zKind (562 + 2 * k) = 17 ∧ zKind (562 + 2 * k + 1) = 0 ∧ zLen (562 + 2 * k + 1) = rmX9 k ∧ zRef (562 + 2 * k) 0 = 562 + 2 * k + 1) := by decide +kernel
theorem sbX9 {h : MH} (st : StrZ zT h) (k : Nat) (hk : k < 28) : SB (562 + 2 * k) (rmX9 k) h := by
  obtain ⟨t1, t2, t3, t4⟩ := tbX9 k hk
  have n : 2628 ≤ h.1 := st.1.1
  obtain ⟨a1, a2⟩ := st.1.2 (562 + 2 * k) (by omega) (show 562 + 2 * k < 2628 by omega)
  obtain ⟨b1, b2⟩ := st.1.2 (562 + 2 * k + 1) (by omega) (show 562 + 2 * k + 1 < 2628 by omega)
  have a1 : (h.2 (562 + 2 * k)).1 = zKind (562 + 2 * k) := a1
  have b1 : (h.2 (562 + 2 * k + 1)).1 = zKind (562 + 2 * k + 1) := b1
  have r := st.2.1 (562 + 2 * k) 0 (by show zRef (562 + 2 * k) 0 ≠ 0; omega)
  refine ⟨⟨by omega, a1.trans t1, fun l => by omega⟩, ⟨by omega, b1.trans t2, fun _ => ?_⟩, ?_⟩
  · exact (b2 (by rw [b1, t2]; decide)).trans t3
  · rw [r]
    show ((zRef (562 + 2 * k) 0 : Nat) : Int) = _
    rw [t4]
theorem in_X9b_len {h : MH} (st : StrZ zT h) (q : zGl zG zi_X9b_len h) (k : Nat) (hk : k < 28) (g0 : 0 ≤ 0 + (1 * (k : Int) + 0)) (g1 : 0 ≤ 27 + ((-1) * (k : Int) + 0)) : 0 ≤ 0 + (1 * (ga h (562 + 2 * k) 1) + 0) ∧ 0 ≤ 0 + ((-1) * (ga h (562 + 2 * k) 1) + (1 * ((h.2 (562 + 2 * k + 1)).2.1 : Int) + 0)) := by
  have s := sbX9 st k hk
  unfold zGl at q
  rw [(zG_is (by decide +kernel : (match zG.1 zi_X9b_len with
      | some x => zBeq x ([60001, 60002, 60003], [((562, 617, 1, 1), (562, [(60001, 2)]), (1, []), (0, [(60002, 1)])), ((562, 617, 1099511627777, 1099511627777), (563, [(60001, 2)]), (1099511627777, []), (0, [(60003, 1)]))], [(0, [(60001, 1)]), (27, [(60001, (-1))])], [(0, [(60002, 1)]), (0, [(60002, (-1)), (60003, 1)])])
      | none => false) = true))] at q
  have w := q (fun v => bif Nat.beq v 60002 then (ga h (562 + 2 * k) 1) else bif Nat.beq v 60003 then ((h.2 (562 + 2 * k + 1)).2.1 : Int) else (k : Int)) (fun v => bif Nat.beq v 60002 then (ga h (562 + 2 * k) 1) else bif Nat.beq v 60003 then ((h.2 (562 + 2 * k + 1)).2.1 : Int) else (k : Int)) (fun _ _ => rfl) (List.forall_mem_cons.mpr ⟨⟨?_, ?_⟩, List.forall_mem_cons.mpr ⟨⟨?_, ?_⟩, fun _ y => absurd y List.not_mem_nil⟩⟩) (List.forall_mem_cons.mpr ⟨?_, List.forall_mem_cons.mpr ⟨?_, fun _ y => absurd y List.not_mem_nil⟩⟩)
  · have z0 : (0 : Int) ≤ 0 + (1 * (ga h (562 + 2 * k) 1) + 0) := w _ (List.mem_cons_self)
    have z1 : (0 : Int) ≤ 0 + ((-1) * (ga h (562 + 2 * k) 1) + (1 * ((h.2 (562 + 2 * k + 1)).2.1 : Int) + 0)) := w _ (List.mem_cons_of_mem _ List.mem_cons_self)
    exact ⟨z0, z1⟩
  · show inZ (562, 617, 1, 1) (562 + (2 * (k : Int) + 0)) (1 + 0)
    exact ⟨⟨by show (562 : Int) ≤ _; omega, Or.inr (by show _ ≤ (617 : Int); omega)⟩, Or.inr ⟨by show (1 : Int) ≤ _; omega, by show _ ≤ (1 : Int); omega⟩⟩
  · show gz h (562 + (2 * (k : Int) + 0)) (1 + 0) = 0 + (1 * (ga h (562 + 2 * k) 1) + 0)
    rw [show (562 + (2 * (k : Int) + 0) : Int) = (((562 + 2 * k) : Nat) : Int) by omega, show (1 + 0 : Int) = 1 by omega, ga_gz (c := (562 + 2 * k)) (i := 1) (by omega) (by omega)]
    omega
  · show inZ (562, 617, 1099511627777, 1099511627777) (563 + (2 * (k : Int) + 0)) (1099511627777 + 0)
    exact ⟨⟨by show (562 : Int) ≤ _; omega, Or.inr (by show _ ≤ (617 : Int); omega)⟩, Or.inr ⟨by show (1099511627777 : Int) ≤ _; omega, by show _ ≤ (1099511627777 : Int); omega⟩⟩
  · show gz h (563 + (2 * (k : Int) + 0)) (1099511627777 + 0) = 0 + (1 * ((h.2 (562 + 2 * k + 1)).2.1 : Int) + 0)
    rw [show (563 + (2 * (k : Int) + 0) : Int) = (((562 + 2 * k + 1) : Nat) : Int) by omega, show (1099511627777 + 0 : Int) = 1099511627777 by decide, gz_len s.2.1.1]
    omega
  · show (0 : Int) ≤ 0 + (1 * (k : Int) + 0)
    omega
  · show (0 : Int) ≤ 27 + ((-1) * (k : Int) + 0)
    omega
theorem in_X9b_sg {h : MH} (st : StrZ zT h) (q : zGl zG zi_X9b_sg h) (k : Nat) (hk : k < 28) (g0 : 0 ≤ 0 + (1 * (k : Int) + 0)) (g1 : 0 ≤ 27 + ((-1) * (k : Int) + 0)) : 0 ≤ 1 + (1 * (ga h (562 + 2 * k) 2) + 0) ∧ 0 ≤ 1 + ((-1) * (ga h (562 + 2 * k) 2) + 0) := by
  have s := sbX9 st k hk
  unfold zGl at q
  rw [(zG_is (by decide +kernel : (match zG.1 zi_X9b_sg with
      | some x => zBeq x ([60001, 60002], [((562, 617, 2, 2), (562, [(60001, 2)]), (2, []), (0, [(60002, 1)]))], [(0, [(60001, 1)]), (27, [(60001, (-1))])], [(1, [(60002, 1)]), (1, [(60002, (-1))])])
      | none => false) = true))] at q
  have w := q (fun v => bif Nat.beq v 60002 then (ga h (562 + 2 * k) 2) else (k : Int)) (fun v => bif Nat.beq v 60002 then (ga h (562 + 2 * k) 2) else (k : Int)) (fun _ _ => rfl) (List.forall_mem_cons.mpr ⟨⟨?_, ?_⟩, fun _ y => absurd y List.not_mem_nil⟩) (List.forall_mem_cons.mpr ⟨?_, List.forall_mem_cons.mpr ⟨?_, fun _ y => absurd y List.not_mem_nil⟩⟩)
  · have z0 : (0 : Int) ≤ 1 + (1 * (ga h (562 + 2 * k) 2) + 0) := w _ (List.mem_cons_self)
    have z1 : (0 : Int) ≤ 1 + ((-1) * (ga h (562 + 2 * k) 2) + 0) := w _ (List.mem_cons_of_mem _ List.mem_cons_self)
    exact ⟨z0, z1⟩
  · show inZ (562, 617, 2, 2) (562 + (2 * (k : Int) + 0)) (2 + 0)
    exact ⟨⟨by show (562 : Int) ≤ _; omega, Or.inr (by show _ ≤ (617 : Int); omega)⟩, Or.inr ⟨by show (2 : Int) ≤ _; omega, by show _ ≤ (2 : Int); omega⟩⟩
  · show gz h (562 + (2 * (k : Int) + 0)) (2 + 0) = 0 + (1 * (ga h (562 + 2 * k) 2) + 0)
    rw [show (562 + (2 * (k : Int) + 0) : Int) = (((562 + 2 * k) : Nat) : Int) by omega, show (2 + 0 : Int) = 2 by omega, ga_gz (c := (562 + 2 * k)) (i := 2) (by omega) (by omega)]
    omega
  · show (0 : Int) ≤ 0 + (1 * (k : Int) + 0)
    omega
  · show (0 : Int) ≤ 27 + ((-1) * (k : Int) + 0)
    omega
theorem in_X9b_lb {h : MH} (st : StrZ zT h) (q : zGl zG zi_X9b_lb h) (k : Nat) (hk : k < 28) (i : Int) (g0 : 0 ≤ 0 + (1 * (k : Int) + 0)) (g1 : 0 ≤ 27 + ((-1) * (k : Int) + 0)) (g2 : 0 ≤ 0 + (1 * i + 0)) (ib : i < 1099511627776) : 0 ≤ 0 + (1 * (ga h (562 + 2 * k + 1) i) + 0) ∧ 0 ≤ 1073741823 + ((-1) * (ga h (562 + 2 * k + 1) i) + 0) := by
  have s := sbX9 st k hk
  unfold zGl at q
  rw [(zG_is (by decide +kernel : (match zG.1 zi_X9b_lb with
      | some x => zBeq x ([60001, 60002, 60004], [((562, 617, 0, 1099511627775), (563, [(60001, 2)]), (0, [(60004, 1)]), (0, [(60002, 1)]))], [(0, [(60001, 1)]), (27, [(60001, (-1))]), (0, [(60004, 1)])], [(0, [(60002, 1)]), (1073741823, [(60002, (-1))])])
      | none => false) = true))] at q
  have w := q (fun v => bif Nat.beq v 60002 then (ga h (562 + 2 * k + 1) i) else bif Nat.beq v 60004 then i else (k : Int)) (fun v => bif Nat.beq v 60002 then (ga h (562 + 2 * k + 1) i) else bif Nat.beq v 60004 then i else (k : Int)) (fun _ _ => rfl) (List.forall_mem_cons.mpr ⟨⟨?_, ?_⟩, fun _ y => absurd y List.not_mem_nil⟩) (List.forall_mem_cons.mpr ⟨?_, List.forall_mem_cons.mpr ⟨?_, List.forall_mem_cons.mpr ⟨?_, fun _ y => absurd y List.not_mem_nil⟩⟩⟩)
  · have z0 : (0 : Int) ≤ 0 + (1 * (ga h (562 + 2 * k + 1) i) + 0) := w _ (List.mem_cons_self)
    have z1 : (0 : Int) ≤ 1073741823 + ((-1) * (ga h (562 + 2 * k + 1) i) + 0) := w _ (List.mem_cons_of_mem _ List.mem_cons_self)
    exact ⟨z0, z1⟩
  · show inZ (562, 617, 0, 1099511627775) (563 + (2 * (k : Int) + 0)) (0 + (1 * i + 0))
    exact ⟨⟨by show (562 : Int) ≤ _; omega, Or.inr (by show _ ≤ (617 : Int); omega)⟩, Or.inr ⟨by show (0 : Int) ≤ _; omega, by show _ ≤ (1099511627775 : Int); omega⟩⟩
  · show gz h (563 + (2 * (k : Int) + 0)) (0 + (1 * i + 0)) = 0 + (1 * (ga h (562 + 2 * k + 1) i) + 0)
    rw [show (563 + (2 * (k : Int) + 0) : Int) = (((562 + 2 * k + 1) : Nat) : Int) by omega, show (0 + (1 * i + 0) : Int) = i by omega, ga_gz (c := (562 + 2 * k + 1)) (i := i) (by omega) (by omega)]
    omega
  · show (0 : Int) ≤ 0 + (1 * (k : Int) + 0)
    omega
  · show (0 : Int) ≤ 27 + ((-1) * (k : Int) + 0)
    omega
  · show (0 : Int) ≤ 0 + (1 * i + 0)
    omega
theorem in_X9b_top0 {h : MH} (st : StrZ zT h) (q : zGl zG zi_X9b_top0 h) (k : Nat) (hk : k < 28) (g0 : 0 ≤ 0 + (1 * (k : Int) + 0)) (g1 : 0 ≤ 4 + ((-1) * (k : Int) + 0)) (g2 : 0 ≤ (-1) + (1 * (ga h (562 + 2 * k) 1) + 0)) (ib1 : ((ga h (562 + 2 * k) 1) - 1) < 1099511627776) : 0 ≤ (-1) + (1 * (ga h (562 + 2 * k + 1) ((ga h (562 + 2 * k) 1) - 1)) + 0) := by
  have s := sbX9 st k hk
  unfold zGl at q
  rw [(zG_is (by decide +kernel : (match zG.1 zi_X9b_top0 with
      | some x => zBeq x ([60001, 60002, 60003], [((562, 617, 1, 1), (562, [(60001, 2)]), (1, []), (0, [(60002, 1)])), ((562, 617, 0, 1099511627775), (563, [(60001, 2)]), ((-1), [(60002, 1)]), (0, [(60003, 1)]))], [(0, [(60001, 1)]), (4, [(60001, (-1))]), ((-1), [(60002, 1)])], [((-1), [(60003, 1)])])
      | none => false) = true))] at q
  have w := q (fun v => bif Nat.beq v 60002 then (ga h (562 + 2 * k) 1) else bif Nat.beq v 60003 then (ga h (562 + 2 * k + 1) ((ga h (562 + 2 * k) 1) - 1)) else (k : Int)) (fun v => bif Nat.beq v 60002 then (ga h (562 + 2 * k) 1) else bif Nat.beq v 60003 then (ga h (562 + 2 * k + 1) ((ga h (562 + 2 * k) 1) - 1)) else (k : Int)) (fun _ _ => rfl) (List.forall_mem_cons.mpr ⟨⟨?_, ?_⟩, List.forall_mem_cons.mpr ⟨⟨?_, ?_⟩, fun _ y => absurd y List.not_mem_nil⟩⟩) (List.forall_mem_cons.mpr ⟨?_, List.forall_mem_cons.mpr ⟨?_, List.forall_mem_cons.mpr ⟨?_, fun _ y => absurd y List.not_mem_nil⟩⟩⟩)
  · have z0 : (0 : Int) ≤ (-1) + (1 * (ga h (562 + 2 * k + 1) ((ga h (562 + 2 * k) 1) - 1)) + 0) := w _ (List.mem_cons_self)
    exact z0
  · show inZ (562, 617, 1, 1) (562 + (2 * (k : Int) + 0)) (1 + 0)
    exact ⟨⟨by show (562 : Int) ≤ _; omega, Or.inr (by show _ ≤ (617 : Int); omega)⟩, Or.inr ⟨by show (1 : Int) ≤ _; omega, by show _ ≤ (1 : Int); omega⟩⟩
  · show gz h (562 + (2 * (k : Int) + 0)) (1 + 0) = 0 + (1 * (ga h (562 + 2 * k) 1) + 0)
    rw [show (562 + (2 * (k : Int) + 0) : Int) = (((562 + 2 * k) : Nat) : Int) by omega, show (1 + 0 : Int) = 1 by omega, ga_gz (c := (562 + 2 * k)) (i := 1) (by omega) (by omega)]
    omega
  · show inZ (562, 617, 0, 1099511627775) (563 + (2 * (k : Int) + 0)) ((-1) + (1 * (ga h (562 + 2 * k) 1) + 0))
    exact ⟨⟨by show (562 : Int) ≤ _; omega, Or.inr (by show _ ≤ (617 : Int); omega)⟩, Or.inr ⟨by show (0 : Int) ≤ _; omega, by show _ ≤ (1099511627775 : Int); omega⟩⟩
  · show gz h (563 + (2 * (k : Int) + 0)) ((-1) + (1 * (ga h (562 + 2 * k) 1) + 0)) = 0 + (1 * (ga h (562 + 2 * k + 1) ((ga h (562 + 2 * k) 1) - 1)) + 0)
    rw [show (563 + (2 * (k : Int) + 0) : Int) = (((562 + 2 * k + 1) : Nat) : Int) by omega, show ((-1) + (1 * (ga h (562 + 2 * k) 1) + 0) : Int) = ((ga h (562 + 2 * k) 1) - 1) by omega, ga_gz (c := (562 + 2 * k + 1)) (i := ((ga h (562 + 2 * k) 1) - 1)) (by omega) (by omega)]
    omega
  · show (0 : Int) ≤ 0 + (1 * (k : Int) + 0)
    omega
  · show (0 : Int) ≤ 4 + ((-1) * (k : Int) + 0)
    omega
  · show (0 : Int) ≤ (-1) + (1 * (ga h (562 + 2 * k) 1) + 0)
    omega
theorem in_X9b_top1 {h : MH} (st : StrZ zT h) (q : zGl zG zi_X9b_top1 h) (k : Nat) (hk : k < 28) (g0 : 0 ≤ (-6) + (1 * (k : Int) + 0)) (g1 : 0 ≤ 13 + ((-1) * (k : Int) + 0)) (g2 : 0 ≤ (-1) + (1 * (ga h (562 + 2 * k) 1) + 0)) (ib1 : ((ga h (562 + 2 * k) 1) - 1) < 1099511627776) : 0 ≤ (-1) + (1 * (ga h (562 + 2 * k + 1) ((ga h (562 + 2 * k) 1) - 1)) + 0) := by
  have s := sbX9 st k hk
  unfold zGl at q
  rw [(zG_is (by decide +kernel : (match zG.1 zi_X9b_top1 with
      | some x => zBeq x ([60001, 60002, 60003], [((562, 617, 1, 1), (562, [(60001, 2)]), (1, []), (0, [(60002, 1)])), ((562, 617, 0, 1099511627775), (563, [(60001, 2)]), ((-1), [(60002, 1)]), (0, [(60003, 1)]))], [((-6), [(60001, 1)]), (13, [(60001, (-1))]), ((-1), [(60002, 1)])], [((-1), [(60003, 1)])])
      | none => false) = true))] at q
  have w := q (fun v => bif Nat.beq v 60002 then (ga h (562 + 2 * k) 1) else bif Nat.beq v 60003 then (ga h (562 + 2 * k + 1) ((ga h (562 + 2 * k) 1) - 1)) else (k : Int)) (fun v => bif Nat.beq v 60002 then (ga h (562 + 2 * k) 1) else bif Nat.beq v 60003 then (ga h (562 + 2 * k + 1) ((ga h (562 + 2 * k) 1) - 1)) else (k : Int)) (fun _ _ => rfl) (List.forall_mem_cons.mpr ⟨⟨?_, ?_⟩, List.forall_mem_cons.mpr ⟨⟨?_, ?_⟩, fun _ y => absurd y List.not_mem_nil⟩⟩) (List.forall_mem_cons.mpr ⟨?_, List.forall_mem_cons.mpr ⟨?_, List.forall_mem_cons.mpr ⟨?_, fun _ y => absurd y List.not_mem_nil⟩⟩⟩)
  · have z0 : (0 : Int) ≤ (-1) + (1 * (ga h (562 + 2 * k + 1) ((ga h (562 + 2 * k) 1) - 1)) + 0) := w _ (List.mem_cons_self)
    exact z0
  · show inZ (562, 617, 1, 1) (562 + (2 * (k : Int) + 0)) (1 + 0)
    exact ⟨⟨by show (562 : Int) ≤ _; omega, Or.inr (by show _ ≤ (617 : Int); omega)⟩, Or.inr ⟨by show (1 : Int) ≤ _; omega, by show _ ≤ (1 : Int); omega⟩⟩
  · show gz h (562 + (2 * (k : Int) + 0)) (1 + 0) = 0 + (1 * (ga h (562 + 2 * k) 1) + 0)
    rw [show (562 + (2 * (k : Int) + 0) : Int) = (((562 + 2 * k) : Nat) : Int) by omega, show (1 + 0 : Int) = 1 by omega, ga_gz (c := (562 + 2 * k)) (i := 1) (by omega) (by omega)]
    omega
  · show inZ (562, 617, 0, 1099511627775) (563 + (2 * (k : Int) + 0)) ((-1) + (1 * (ga h (562 + 2 * k) 1) + 0))
    exact ⟨⟨by show (562 : Int) ≤ _; omega, Or.inr (by show _ ≤ (617 : Int); omega)⟩, Or.inr ⟨by show (0 : Int) ≤ _; omega, by show _ ≤ (1099511627775 : Int); omega⟩⟩
  · show gz h (563 + (2 * (k : Int) + 0)) ((-1) + (1 * (ga h (562 + 2 * k) 1) + 0)) = 0 + (1 * (ga h (562 + 2 * k + 1) ((ga h (562 + 2 * k) 1) - 1)) + 0)
    rw [show (563 + (2 * (k : Int) + 0) : Int) = (((562 + 2 * k + 1) : Nat) : Int) by omega, show ((-1) + (1 * (ga h (562 + 2 * k) 1) + 0) : Int) = ((ga h (562 + 2 * k) 1) - 1) by omega, ga_gz (c := (562 + 2 * k + 1)) (i := ((ga h (562 + 2 * k) 1) - 1)) (by omega) (by omega)]
    omega
  · show (0 : Int) ≤ (-6) + (1 * (k : Int) + 0)
    omega
  · show (0 : Int) ≤ 13 + ((-1) * (k : Int) + 0)
    omega
  · show (0 : Int) ≤ (-1) + (1 * (ga h (562 + 2 * k) 1) + 0)
    omega
theorem FBX9.of {h : MH} (st : StrZ zT h) (c1 : zGl zG zi_X9b_len h) (c2 : zGl zG zi_X9b_sg h) (c3 : zGl zG zi_X9b_lb h) (c4 : zGl zG zi_X9b_top0 h) (c5 : zGl zG zi_X9b_top1 h) : FBX9 h := fun k hk => by
  have s := sbX9 st k hk
  have a := in_X9b_len st c1 k hk (by omega) (by omega)
  have b := in_X9b_sg st c2 k hk (by omega) (by omega)
  have r9 := rmX9_b k
  have l9 := s.2.1.2.2 (by decide)
  refine ⟨s, by omega, fun j j0 j1 => ?_, by omega, fun t q => ?_⟩
  · have := in_X9b_lb st c3 k hk j (by omega) (by omega) (by omega) j1
    omega
  · rcases t with t | t
    · have := in_X9b_top0 st c4 k hk (by omega) (by omega) (by omega) (by omega)
      omega
    · have := in_X9b_top1 st c5 k hk (by omega) (by omega) (by omega) (by omega)
      omega
theorem out_X9b_rf {h : MH} (st : StrZ zT h) (f : FBX9 h) : zGl zG zi_X9b_rf h := by
  unfold zGl
  rw [(zG_is (by decide +kernel : (match zG.1 zi_X9b_rf with
      | some x => zBeq x ([60001, 60002], [((562, 617, 0, 0), (562, [(60001, 2)]), (0, []), (0, [(60002, 1)]))], [(0, [(60001, 1)]), (27, [(60001, (-1))])], [((-563), [(60001, (-2)), (60002, 1)]), (563, [(60001, 2), (60002, (-1))])])
      | none => false) = true))]
  intro ρ β _ hE hG c hc
  have g0 : (0 : Int) ≤ 0 + (1 * β 60001 + 0) := hG _ (List.mem_cons_self)
  have g1 : (0 : Int) ≤ 27 + ((-1) * β 60001 + 0) := hG _ (List.mem_cons_of_mem _ List.mem_cons_self)
  obtain ⟨k, ek⟩ : ∃ k : Nat, β 60001 = (k : Int) := ⟨(β 60001).toNat, by omega⟩
  have hk : k < 28 := by omega
  obtain ⟨s, l, d, sg, tp⟩ := f k hk
  have i0 : inZ (562, 617, 0, 0) (562 + (2 * β 60001 + 0)) (0 + 0) := (hE _ (List.mem_cons_self)).1
  have w0 : gz h (562 + (2 * β 60001 + 0)) (0 + 0) = 0 + (1 * β 60002 + 0) := (hE _ (List.mem_cons_self)).2
  rw [show (562 + (2 * β 60001 + 0) : Int) = (((562 + 2 * k) : Nat) : Int) by omega, show (0 + 0 : Int) = 0 by omega, ga_gz (c := (562 + 2 * k)) (i := 0) (by omega) (by have := rmX9_b k; omega)] at w0
  have rr := s.2.2
  have rr : ga h (562 + 2 * k) 0 = ((562 + 2 * k + 1 : Nat) : Int) := rr
  simp only [List.mem_cons, List.not_mem_nil, or_false] at hc
  rcases hc with rfl | rfl
  · show (0 : Int) ≤ (-563) + ((-2) * β 60001 + (1 * β 60002 + 0))
    omega
  · show (0 : Int) ≤ 563 + (2 * β 60001 + ((-1) * β 60002 + 0))
    omega
theorem out_X9b_len {h : MH} (st : StrZ zT h) (f : FBX9 h) : zGl zG zi_X9b_len h := by
  unfold zGl
  rw [(zG_is (by decide +kernel : (match zG.1 zi_X9b_len with
      | some x => zBeq x ([60001, 60002, 60003], [((562, 617, 1, 1), (562, [(60001, 2)]), (1, []), (0, [(60002, 1)])), ((562, 617, 1099511627777, 1099511627777), (563, [(60001, 2)]), (1099511627777, []), (0, [(60003, 1)]))], [(0, [(60001, 1)]), (27, [(60001, (-1))])], [(0, [(60002, 1)]), (0, [(60002, (-1)), (60003, 1)])])
      | none => false) = true))]
  intro ρ β _ hE hG c hc
  have g0 : (0 : Int) ≤ 0 + (1 * β 60001 + 0) := hG _ (List.mem_cons_self)
  have g1 : (0 : Int) ≤ 27 + ((-1) * β 60001 + 0) := hG _ (List.mem_cons_of_mem _ List.mem_cons_self)
  obtain ⟨k, ek⟩ : ∃ k : Nat, β 60001 = (k : Int) := ⟨(β 60001).toNat, by omega⟩
  have hk : k < 28 := by omega
  obtain ⟨s, l, d, sg, tp⟩ := f k hk
  have i0 : inZ (562, 617, 1, 1) (562 + (2 * β 60001 + 0)) (1 + 0) := (hE _ (List.mem_cons_self)).1
  have w0 : gz h (562 + (2 * β 60001 + 0)) (1 + 0) = 0 + (1 * β 60002 + 0) := (hE _ (List.mem_cons_self)).2
  rw [show (562 + (2 * β 60001 + 0) : Int) = (((562 + 2 * k) : Nat) : Int) by omega, show (1 + 0 : Int) = 1 by omega, ga_gz (c := (562 + 2 * k)) (i := 1) (by omega) (by have := rmX9_b k; omega)] at w0
  have i1 : inZ (562, 617, 1099511627777, 1099511627777) (563 + (2 * β 60001 + 0)) (1099511627777 + 0) := (hE _ (List.mem_cons_of_mem _ List.mem_cons_self)).1
  have w1 : gz h (563 + (2 * β 60001 + 0)) (1099511627777 + 0) = 0 + (1 * β 60003 + 0) := (hE _ (List.mem_cons_of_mem _ List.mem_cons_self)).2
  rw [show (563 + (2 * β 60001 + 0) : Int) = (((562 + 2 * k + 1) : Nat) : Int) by omega, show (1099511627777 + 0 : Int) = 1099511627777 by decide, gz_len s.2.1.1, s.2.1.2.2 (by decide)] at w1
  simp only [List.mem_cons, List.not_mem_nil, or_false] at hc
  rcases hc with rfl | rfl
  · show (0 : Int) ≤ 0 + (1 * β 60002 + 0)
    omega
  · show (0 : Int) ≤ 0 + ((-1) * β 60002 + (1 * β 60003 + 0))
    omega
theorem out_X9b_sg {h : MH} (st : StrZ zT h) (f : FBX9 h) : zGl zG zi_X9b_sg h := by
  unfold zGl
  rw [(zG_is (by decide +kernel : (match zG.1 zi_X9b_sg with
      | some x => zBeq x ([60001, 60002], [((562, 617, 2, 2), (562, [(60001, 2)]), (2, []), (0, [(60002, 1)]))], [(0, [(60001, 1)]), (27, [(60001, (-1))])], [(1, [(60002, 1)]), (1, [(60002, (-1))])])
      | none => false) = true))]
  intro ρ β _ hE hG c hc
  have g0 : (0 : Int) ≤ 0 + (1 * β 60001 + 0) := hG _ (List.mem_cons_self)
  have g1 : (0 : Int) ≤ 27 + ((-1) * β 60001 + 0) := hG _ (List.mem_cons_of_mem _ List.mem_cons_self)
  obtain ⟨k, ek⟩ : ∃ k : Nat, β 60001 = (k : Int) := ⟨(β 60001).toNat, by omega⟩
  have hk : k < 28 := by omega
  obtain ⟨s, l, d, sg, tp⟩ := f k hk
  have i0 : inZ (562, 617, 2, 2) (562 + (2 * β 60001 + 0)) (2 + 0) := (hE _ (List.mem_cons_self)).1
  have w0 : gz h (562 + (2 * β 60001 + 0)) (2 + 0) = 0 + (1 * β 60002 + 0) := (hE _ (List.mem_cons_self)).2
  rw [show (562 + (2 * β 60001 + 0) : Int) = (((562 + 2 * k) : Nat) : Int) by omega, show (2 + 0 : Int) = 2 by omega, ga_gz (c := (562 + 2 * k)) (i := 2) (by omega) (by have := rmX9_b k; omega)] at w0
  simp only [List.mem_cons, List.not_mem_nil, or_false] at hc
  rcases hc with rfl | rfl
  · show (0 : Int) ≤ 1 + (1 * β 60002 + 0)
    omega
  · show (0 : Int) ≤ 1 + ((-1) * β 60002 + 0)
    omega
theorem out_X9b_lb {h : MH} (st : StrZ zT h) (f : FBX9 h) : zGl zG zi_X9b_lb h := by
  unfold zGl
  rw [(zG_is (by decide +kernel : (match zG.1 zi_X9b_lb with
      | some x => zBeq x ([60001, 60002, 60004], [((562, 617, 0, 1099511627775), (563, [(60001, 2)]), (0, [(60004, 1)]), (0, [(60002, 1)]))], [(0, [(60001, 1)]), (27, [(60001, (-1))]), (0, [(60004, 1)])], [(0, [(60002, 1)]), (1073741823, [(60002, (-1))])])
      | none => false) = true))]
  intro ρ β _ hE hG c hc
  have g0 : (0 : Int) ≤ 0 + (1 * β 60001 + 0) := hG _ (List.mem_cons_self)
  have g1 : (0 : Int) ≤ 27 + ((-1) * β 60001 + 0) := hG _ (List.mem_cons_of_mem _ List.mem_cons_self)
  have g2 : (0 : Int) ≤ 0 + (1 * β 60004 + 0) := hG _ (List.mem_cons_of_mem _ (List.mem_cons_of_mem _ List.mem_cons_self))
  obtain ⟨k, ek⟩ : ∃ k : Nat, β 60001 = (k : Int) := ⟨(β 60001).toNat, by omega⟩
  have hk : k < 28 := by omega
  obtain ⟨s, l, d, sg, tp⟩ := f k hk
  obtain ⟨i, ei⟩ : ∃ i : Int, i = β 60004 := ⟨_, rfl⟩
  have i0 : inZ (562, 617, 0, 1099511627775) (563 + (2 * β 60001 + 0)) (0 + (1 * β 60004 + 0)) := (hE _ (List.mem_cons_self)).1
  have w0 : gz h (563 + (2 * β 60001 + 0)) (0 + (1 * β 60004 + 0)) = 0 + (1 * β 60002 + 0) := (hE _ (List.mem_cons_self)).2
  have ib : i < 1099511627776 := by
    rcases i0.2 with q | q
    · exact absurd q (by decide)
    · have q2 : (0 + (1 * β 60004 + 0) : Int) ≤ 1099511627775 := q.2
      omega
  rw [show (563 + (2 * β 60001 + 0) : Int) = (((562 + 2 * k + 1) : Nat) : Int) by omega, show (0 + (1 * β 60004 + 0) : Int) = i by omega, ga_gz (c := (562 + 2 * k + 1)) (i := i) (by omega) (by have := rmX9_b k; omega)] at w0
  have dd := d i (by omega) ib
  simp only [List.mem_cons, List.not_mem_nil, or_false] at hc
  rcases hc with rfl | rfl
  · show (0 : Int) ≤ 0 + (1 * β 60002 + 0)
    omega
  · show (0 : Int) ≤ 1073741823 + ((-1) * β 60002 + 0)
    omega
theorem out_X9b_top0 {h : MH} (st : StrZ zT h) (f : FBX9 h) : zGl zG zi_X9b_top0 h := by
  unfold zGl
  rw [(zG_is (by decide +kernel : (match zG.1 zi_X9b_top0 with
      | some x => zBeq x ([60001, 60002, 60003], [((562, 617, 1, 1), (562, [(60001, 2)]), (1, []), (0, [(60002, 1)])), ((562, 617, 0, 1099511627775), (563, [(60001, 2)]), ((-1), [(60002, 1)]), (0, [(60003, 1)]))], [(0, [(60001, 1)]), (4, [(60001, (-1))]), ((-1), [(60002, 1)])], [((-1), [(60003, 1)])])
      | none => false) = true))]
  intro ρ β _ hE hG c hc
  have g0 : (0 : Int) ≤ 0 + (1 * β 60001 + 0) := hG _ (List.mem_cons_self)
  have g1 : (0 : Int) ≤ 4 + ((-1) * β 60001 + 0) := hG _ (List.mem_cons_of_mem _ List.mem_cons_self)
  have g2 : (0 : Int) ≤ (-1) + (1 * β 60002 + 0) := hG _ (List.mem_cons_of_mem _ (List.mem_cons_of_mem _ List.mem_cons_self))
  obtain ⟨k, ek⟩ : ∃ k : Nat, β 60001 = (k : Int) := ⟨(β 60001).toNat, by omega⟩
  have hk : k < 28 := by omega
  obtain ⟨s, l, d, sg, tp⟩ := f k hk
  have i0 : inZ (562, 617, 1, 1) (562 + (2 * β 60001 + 0)) (1 + 0) := (hE _ (List.mem_cons_self)).1
  have w0 : gz h (562 + (2 * β 60001 + 0)) (1 + 0) = 0 + (1 * β 60002 + 0) := (hE _ (List.mem_cons_self)).2
  rw [show (562 + (2 * β 60001 + 0) : Int) = (((562 + 2 * k) : Nat) : Int) by omega, show (1 + 0 : Int) = 1 by omega, ga_gz (c := (562 + 2 * k)) (i := 1) (by omega) (by have := rmX9_b k; omega)] at w0
  have i1 : inZ (562, 617, 0, 1099511627775) (563 + (2 * β 60001 + 0)) ((-1) + (1 * β 60002 + 0)) := (hE _ (List.mem_cons_of_mem _ List.mem_cons_self)).1
  have w1 : gz h (563 + (2 * β 60001 + 0)) ((-1) + (1 * β 60002 + 0)) = 0 + (1 * β 60003 + 0) := (hE _ (List.mem_cons_of_mem _ List.mem_cons_self)).2
  have b1 : β 60002 = ga h (562 + 2 * k) 1 := by omega
  rw [show (563 + (2 * β 60001 + 0) : Int) = (((562 + 2 * k + 1) : Nat) : Int) by omega, show ((-1) + (1 * β 60002 + 0) : Int) = (ga h (562 + 2 * k) 1 - 1) by omega, ga_gz (c := (562 + 2 * k + 1)) (i := (ga h (562 + 2 * k) 1 - 1)) (by omega) (by have := rmX9_b k; omega)] at w1
  have tt := tp (Or.inl (by omega)) (by omega)
  simp only [List.mem_cons, List.not_mem_nil, or_false] at hc
  subst hc
  · show (0 : Int) ≤ (-1) + (1 * β 60003 + 0)
    omega
theorem out_X9b_top1 {h : MH} (st : StrZ zT h) (f : FBX9 h) : zGl zG zi_X9b_top1 h := by
  unfold zGl
  rw [(zG_is (by decide +kernel : (match zG.1 zi_X9b_top1 with
      | some x => zBeq x ([60001, 60002, 60003], [((562, 617, 1, 1), (562, [(60001, 2)]), (1, []), (0, [(60002, 1)])), ((562, 617, 0, 1099511627775), (563, [(60001, 2)]), ((-1), [(60002, 1)]), (0, [(60003, 1)]))], [((-6), [(60001, 1)]), (13, [(60001, (-1))]), ((-1), [(60002, 1)])], [((-1), [(60003, 1)])])
      | none => false) = true))]
  intro ρ β _ hE hG c hc
  have g0 : (0 : Int) ≤ (-6) + (1 * β 60001 + 0) := hG _ (List.mem_cons_self)
  have g1 : (0 : Int) ≤ 13 + ((-1) * β 60001 + 0) := hG _ (List.mem_cons_of_mem _ List.mem_cons_self)
  have g2 : (0 : Int) ≤ (-1) + (1 * β 60002 + 0) := hG _ (List.mem_cons_of_mem _ (List.mem_cons_of_mem _ List.mem_cons_self))
  obtain ⟨k, ek⟩ : ∃ k : Nat, β 60001 = (k : Int) := ⟨(β 60001).toNat, by omega⟩
  have hk : k < 28 := by omega
  obtain ⟨s, l, d, sg, tp⟩ := f k hk
  have i0 : inZ (562, 617, 1, 1) (562 + (2 * β 60001 + 0)) (1 + 0) := (hE _ (List.mem_cons_self)).1
  have w0 : gz h (562 + (2 * β 60001 + 0)) (1 + 0) = 0 + (1 * β 60002 + 0) := (hE _ (List.mem_cons_self)).2
  rw [show (562 + (2 * β 60001 + 0) : Int) = (((562 + 2 * k) : Nat) : Int) by omega, show (1 + 0 : Int) = 1 by omega, ga_gz (c := (562 + 2 * k)) (i := 1) (by omega) (by have := rmX9_b k; omega)] at w0
  have i1 : inZ (562, 617, 0, 1099511627775) (563 + (2 * β 60001 + 0)) ((-1) + (1 * β 60002 + 0)) := (hE _ (List.mem_cons_of_mem _ List.mem_cons_self)).1
  have w1 : gz h (563 + (2 * β 60001 + 0)) ((-1) + (1 * β 60002 + 0)) = 0 + (1 * β 60003 + 0) := (hE _ (List.mem_cons_of_mem _ List.mem_cons_self)).2
  have b1 : β 60002 = ga h (562 + 2 * k) 1 := by omega
  rw [show (563 + (2 * β 60001 + 0) : Int) = (((562 + 2 * k + 1) : Nat) : Int) by omega, show ((-1) + (1 * β 60002 + 0) : Int) = (ga h (562 + 2 * k) 1 - 1) by omega, ga_gz (c := (562 + 2 * k + 1)) (i := (ga h (562 + 2 * k) 1 - 1)) (by omega) (by have := rmX9_b k; omega)] at w1
  have tt := tp (Or.inr (by omega)) (by omega)
  simp only [List.mem_cons, List.not_mem_nil, or_false] at hc
  subst hc
  · show (0 : Int) ≤ (-1) + (1 * β 60003 + 0)
    omega
def rmX8 : Nat → Nat := fun k => 32
def FBX8 (h : MH) : Prop := ∀ k : Nat, k < 7 → SB (819 + 2 * k) (rmX8 k) h ∧ (0 ≤ ga h (819 + 2 * k) 1 ∧ ga h (819 + 2 * k) 1 ≤ (rmX8 k : Int)) ∧ Dg1 (ga h (819 + 2 * k + 1)) 1099511627776 ∧ (-1 ≤ ga h (819 + 2 * k) 2 ∧ ga h (819 + 2 * k) 2 ≤ 1) ∧ ((0 ≤ k ∧ k ≤ 4) ∨ (6 ≤ k ∧ k ≤ 6) → 1 ≤ ga h (819 + 2 * k) 1 → 1 ≤ ga h (819 + 2 * k + 1) (ga h (819 + 2 * k) 1 - 1))
theorem rmX8_b (k : Nat) : rmX8 k ≤ 160 := by
  unfold rmX8
  repeat' split
  all_goals omega
theorem tbX8 : ∀ k : Nat, k < 7 → (zKind (819 + 2 * k) = 17 ∧ zKind (819 + 2 * k + 1) = 0 ∧ zLen (819 + 2 * k + 1) = rmX8 k ∧ zRef (819 + 2 * k) 0 = 819 + 2 * k + 1) := by decide +kernel
theorem sbX8 {h : MH} (st : StrZ zT h) (k : Nat) (hk : k < 7) : SB (819 + 2 * k) (rmX8 k) h := by
  obtain ⟨t1, t2, t3, t4⟩ := tbX8 k hk
  have n : 2628 ≤ h.1 := st.1.1
  obtain ⟨a1, a2⟩ := st.1.2 (819 + 2 * k) (by omega) (show 819 + 2 * k < 2628 by omega)
  obtain ⟨b1, b2⟩ := st.1.2 (819 + 2 * k + 1) (by omega) (show 819 + 2 * k + 1 < 2628 by omega)
  have a1 : (h.2 (819 + 2 * k)).1 = zKind (819 + 2 * k) := a1
  have b1 : (h.2 (819 + 2 * k + 1)).1 = zKind (819 + 2 * k + 1) := b1
  have r := st.2.1 (819 + 2 * k) 0 (by show zRef (819 + 2 * k) 0 ≠ 0; omega)
  refine ⟨⟨by omega, a1.trans t1, fun l => by omega⟩, ⟨by omega, b1.trans t2, fun _ => ?_⟩, ?_⟩
  · exact (b2 (by rw [b1, t2]; decide)).trans t3
  · rw [r]
    show ((zRef (819 + 2 * k) 0 : Nat) : Int) = _
    rw [t4]
theorem in_X8b_len {h : MH} (st : StrZ zT h) (q : zGl zG zi_X8b_len h) (k : Nat) (hk : k < 7) (g0 : 0 ≤ 0 + (1 * (k : Int) + 0)) (g1 : 0 ≤ 6 + ((-1) * (k : Int) + 0)) : 0 ≤ 0 + (1 * (ga h (819 + 2 * k) 1) + 0) ∧ 0 ≤ 0 + ((-1) * (ga h (819 + 2 * k) 1) + (1 * ((h.2 (819 + 2 * k + 1)).2.1 : Int) + 0)) := by
  have s := sbX8 st k hk
  unfold zGl at q
  rw [(zG_is (by decide +kernel : (match zG.1 zi_X8b_len with
      | some x => zBeq x ([60001, 60002, 60003], [((819, 832, 1, 1), (819, [(60001, 2)]), (1, []), (0, [(60002, 1)])), ((819, 832, 1099511627777, 1099511627777), (820, [(60001, 2)]), (1099511627777, []), (0, [(60003, 1)]))], [(0, [(60001, 1)]), (6, [(60001, (-1))])], [(0, [(60002, 1)]), (0, [(60002, (-1)), (60003, 1)])])
      | none => false) = true))] at q
  have w := q (fun v => bif Nat.beq v 60002 then (ga h (819 + 2 * k) 1) else bif Nat.beq v 60003 then ((h.2 (819 + 2 * k + 1)).2.1 : Int) else (k : Int)) (fun v => bif Nat.beq v 60002 then (ga h (819 + 2 * k) 1) else bif Nat.beq v 60003 then ((h.2 (819 + 2 * k + 1)).2.1 : Int) else (k : Int)) (fun _ _ => rfl) (List.forall_mem_cons.mpr ⟨⟨?_, ?_⟩, List.forall_mem_cons.mpr ⟨⟨?_, ?_⟩, fun _ y => absurd y List.not_mem_nil⟩⟩) (List.forall_mem_cons.mpr ⟨?_, List.forall_mem_cons.mpr ⟨?_, fun _ y => absurd y List.not_mem_nil⟩⟩)
  · have z0 : (0 : Int) ≤ 0 + (1 * (ga h (819 + 2 * k) 1) + 0) := w _ (List.mem_cons_self)
    have z1 : (0 : Int) ≤ 0 + ((-1) * (ga h (819 + 2 * k) 1) + (1 * ((h.2 (819 + 2 * k + 1)).2.1 : Int) + 0)) := w _ (List.mem_cons_of_mem _ List.mem_cons_self)
    exact ⟨z0, z1⟩
  · show inZ (819, 832, 1, 1) (819 + (2 * (k : Int) + 0)) (1 + 0)
    exact ⟨⟨by show (819 : Int) ≤ _; omega, Or.inr (by show _ ≤ (832 : Int); omega)⟩, Or.inr ⟨by show (1 : Int) ≤ _; omega, by show _ ≤ (1 : Int); omega⟩⟩
  · show gz h (819 + (2 * (k : Int) + 0)) (1 + 0) = 0 + (1 * (ga h (819 + 2 * k) 1) + 0)
    rw [show (819 + (2 * (k : Int) + 0) : Int) = (((819 + 2 * k) : Nat) : Int) by omega, show (1 + 0 : Int) = 1 by omega, ga_gz (c := (819 + 2 * k)) (i := 1) (by omega) (by omega)]
    omega
  · show inZ (819, 832, 1099511627777, 1099511627777) (820 + (2 * (k : Int) + 0)) (1099511627777 + 0)
    exact ⟨⟨by show (819 : Int) ≤ _; omega, Or.inr (by show _ ≤ (832 : Int); omega)⟩, Or.inr ⟨by show (1099511627777 : Int) ≤ _; omega, by show _ ≤ (1099511627777 : Int); omega⟩⟩
  · show gz h (820 + (2 * (k : Int) + 0)) (1099511627777 + 0) = 0 + (1 * ((h.2 (819 + 2 * k + 1)).2.1 : Int) + 0)
    rw [show (820 + (2 * (k : Int) + 0) : Int) = (((819 + 2 * k + 1) : Nat) : Int) by omega, show (1099511627777 + 0 : Int) = 1099511627777 by decide, gz_len s.2.1.1]
    omega
  · show (0 : Int) ≤ 0 + (1 * (k : Int) + 0)
    omega
  · show (0 : Int) ≤ 6 + ((-1) * (k : Int) + 0)
    omega
theorem in_X8b_sg {h : MH} (st : StrZ zT h) (q : zGl zG zi_X8b_sg h) (k : Nat) (hk : k < 7) (g0 : 0 ≤ 0 + (1 * (k : Int) + 0)) (g1 : 0 ≤ 6 + ((-1) * (k : Int) + 0)) : 0 ≤ 1 + (1 * (ga h (819 + 2 * k) 2) + 0) ∧ 0 ≤ 1 + ((-1) * (ga h (819 + 2 * k) 2) + 0) := by
  have s := sbX8 st k hk
  unfold zGl at q
  rw [(zG_is (by decide +kernel : (match zG.1 zi_X8b_sg with
      | some x => zBeq x ([60001, 60002], [((819, 832, 2, 2), (819, [(60001, 2)]), (2, []), (0, [(60002, 1)]))], [(0, [(60001, 1)]), (6, [(60001, (-1))])], [(1, [(60002, 1)]), (1, [(60002, (-1))])])
      | none => false) = true))] at q
  have w := q (fun v => bif Nat.beq v 60002 then (ga h (819 + 2 * k) 2) else (k : Int)) (fun v => bif Nat.beq v 60002 then (ga h (819 + 2 * k) 2) else (k : Int)) (fun _ _ => rfl) (List.forall_mem_cons.mpr ⟨⟨?_, ?_⟩, fun _ y => absurd y List.not_mem_nil⟩) (List.forall_mem_cons.mpr ⟨?_, List.forall_mem_cons.mpr ⟨?_, fun _ y => absurd y List.not_mem_nil⟩⟩)
  · have z0 : (0 : Int) ≤ 1 + (1 * (ga h (819 + 2 * k) 2) + 0) := w _ (List.mem_cons_self)
    have z1 : (0 : Int) ≤ 1 + ((-1) * (ga h (819 + 2 * k) 2) + 0) := w _ (List.mem_cons_of_mem _ List.mem_cons_self)
    exact ⟨z0, z1⟩
  · show inZ (819, 832, 2, 2) (819 + (2 * (k : Int) + 0)) (2 + 0)
    exact ⟨⟨by show (819 : Int) ≤ _; omega, Or.inr (by show _ ≤ (832 : Int); omega)⟩, Or.inr ⟨by show (2 : Int) ≤ _; omega, by show _ ≤ (2 : Int); omega⟩⟩
  · show gz h (819 + (2 * (k : Int) + 0)) (2 + 0) = 0 + (1 * (ga h (819 + 2 * k) 2) + 0)
    rw [show (819 + (2 * (k : Int) + 0) : Int) = (((819 + 2 * k) : Nat) : Int) by omega, show (2 + 0 : Int) = 2 by omega, ga_gz (c := (819 + 2 * k)) (i := 2) (by omega) (by omega)]
    omega
  · show (0 : Int) ≤ 0 + (1 * (k : Int) + 0)
    omega
  · show (0 : Int) ≤ 6 + ((-1) * (k : Int) + 0)
    omega
theorem in_X8b_lb {h : MH} (st : StrZ zT h) (q : zGl zG zi_X8b_lb h) (k : Nat) (hk : k < 7) (i : Int) (g0 : 0 ≤ 0 + (1 * (k : Int) + 0)) (g1 : 0 ≤ 6 + ((-1) * (k : Int) + 0)) (g2 : 0 ≤ 0 + (1 * i + 0)) (ib : i < 1099511627776) : 0 ≤ 0 + (1 * (ga h (819 + 2 * k + 1) i) + 0) ∧ 0 ≤ 1073741823 + ((-1) * (ga h (819 + 2 * k + 1) i) + 0) := by
  have s := sbX8 st k hk
  unfold zGl at q
  rw [(zG_is (by decide +kernel : (match zG.1 zi_X8b_lb with
      | some x => zBeq x ([60001, 60002, 60004], [((819, 832, 0, 1099511627775), (820, [(60001, 2)]), (0, [(60004, 1)]), (0, [(60002, 1)]))], [(0, [(60001, 1)]), (6, [(60001, (-1))]), (0, [(60004, 1)])], [(0, [(60002, 1)]), (1073741823, [(60002, (-1))])])
      | none => false) = true))] at q
  have w := q (fun v => bif Nat.beq v 60002 then (ga h (819 + 2 * k + 1) i) else bif Nat.beq v 60004 then i else (k : Int)) (fun v => bif Nat.beq v 60002 then (ga h (819 + 2 * k + 1) i) else bif Nat.beq v 60004 then i else (k : Int)) (fun _ _ => rfl) (List.forall_mem_cons.mpr ⟨⟨?_, ?_⟩, fun _ y => absurd y List.not_mem_nil⟩) (List.forall_mem_cons.mpr ⟨?_, List.forall_mem_cons.mpr ⟨?_, List.forall_mem_cons.mpr ⟨?_, fun _ y => absurd y List.not_mem_nil⟩⟩⟩)
  · have z0 : (0 : Int) ≤ 0 + (1 * (ga h (819 + 2 * k + 1) i) + 0) := w _ (List.mem_cons_self)
    have z1 : (0 : Int) ≤ 1073741823 + ((-1) * (ga h (819 + 2 * k + 1) i) + 0) := w _ (List.mem_cons_of_mem _ List.mem_cons_self)
    exact ⟨z0, z1⟩
  · show inZ (819, 832, 0, 1099511627775) (820 + (2 * (k : Int) + 0)) (0 + (1 * i + 0))
    exact ⟨⟨by show (819 : Int) ≤ _; omega, Or.inr (by show _ ≤ (832 : Int); omega)⟩, Or.inr ⟨by show (0 : Int) ≤ _; omega, by show _ ≤ (1099511627775 : Int); omega⟩⟩
  · show gz h (820 + (2 * (k : Int) + 0)) (0 + (1 * i + 0)) = 0 + (1 * (ga h (819 + 2 * k + 1) i) + 0)
    rw [show (820 + (2 * (k : Int) + 0) : Int) = (((819 + 2 * k + 1) : Nat) : Int) by omega, show (0 + (1 * i + 0) : Int) = i by omega, ga_gz (c := (819 + 2 * k + 1)) (i := i) (by omega) (by omega)]
    omega
  · show (0 : Int) ≤ 0 + (1 * (k : Int) + 0)
    omega
  · show (0 : Int) ≤ 6 + ((-1) * (k : Int) + 0)
    omega
  · show (0 : Int) ≤ 0 + (1 * i + 0)
    omega
theorem in_X8b_top0 {h : MH} (st : StrZ zT h) (q : zGl zG zi_X8b_top0 h) (k : Nat) (hk : k < 7) (g0 : 0 ≤ 0 + (1 * (k : Int) + 0)) (g1 : 0 ≤ 4 + ((-1) * (k : Int) + 0)) (g2 : 0 ≤ (-1) + (1 * (ga h (819 + 2 * k) 1) + 0)) (ib1 : ((ga h (819 + 2 * k) 1) - 1) < 1099511627776) : 0 ≤ (-1) + (1 * (ga h (819 + 2 * k + 1) ((ga h (819 + 2 * k) 1) - 1)) + 0) := by
  have s := sbX8 st k hk
  unfold zGl at q
  rw [(zG_is (by decide +kernel : (match zG.1 zi_X8b_top0 with
      | some x => zBeq x ([60001, 60002, 60003], [((819, 832, 1, 1), (819, [(60001, 2)]), (1, []), (0, [(60002, 1)])), ((819, 832, 0, 1099511627775), (820, [(60001, 2)]), ((-1), [(60002, 1)]), (0, [(60003, 1)]))], [(0, [(60001, 1)]), (4, [(60001, (-1))]), ((-1), [(60002, 1)])], [((-1), [(60003, 1)])])
      | none => false) = true))] at q
  have w := q (fun v => bif Nat.beq v 60002 then (ga h (819 + 2 * k) 1) else bif Nat.beq v 60003 then (ga h (819 + 2 * k + 1) ((ga h (819 + 2 * k) 1) - 1)) else (k : Int)) (fun v => bif Nat.beq v 60002 then (ga h (819 + 2 * k) 1) else bif Nat.beq v 60003 then (ga h (819 + 2 * k + 1) ((ga h (819 + 2 * k) 1) - 1)) else (k : Int)) (fun _ _ => rfl) (List.forall_mem_cons.mpr ⟨⟨?_, ?_⟩, List.forall_mem_cons.mpr ⟨⟨?_, ?_⟩, fun _ y => absurd y List.not_mem_nil⟩⟩) (List.forall_mem_cons.mpr ⟨?_, List.forall_mem_cons.mpr ⟨?_, List.forall_mem_cons.mpr ⟨?_, fun _ y => absurd y List.not_mem_nil⟩⟩⟩)
  · have z0 : (0 : Int) ≤ (-1) + (1 * (ga h (819 + 2 * k + 1) ((ga h (819 + 2 * k) 1) - 1)) + 0) := w _ (List.mem_cons_self)
    exact z0
  · show inZ (819, 832, 1, 1) (819 + (2 * (k : Int) + 0)) (1 + 0)
    exact ⟨⟨by show (819 : Int) ≤ _; omega, Or.inr (by show _ ≤ (832 : Int); omega)⟩, Or.inr ⟨by show (1 : Int) ≤ _; omega, by show _ ≤ (1 : Int); omega⟩⟩
  · show gz h (819 + (2 * (k : Int) + 0)) (1 + 0) = 0 + (1 * (ga h (819 + 2 * k) 1) + 0)
    rw [show (819 + (2 * (k : Int) + 0) : Int) = (((819 + 2 * k) : Nat) : Int) by omega, show (1 + 0 : Int) = 1 by omega, ga_gz (c := (819 + 2 * k)) (i := 1) (by omega) (by omega)]
    omega
  · show inZ (819, 832, 0, 1099511627775) (820 + (2 * (k : Int) + 0)) ((-1) + (1 * (ga h (819 + 2 * k) 1) + 0))
    exact ⟨⟨by show (819 : Int) ≤ _; omega, Or.inr (by show _ ≤ (832 : Int); omega)⟩, Or.inr ⟨by show (0 : Int) ≤ _; omega, by show _ ≤ (1099511627775 : Int); omega⟩⟩
  · show gz h (820 + (2 * (k : Int) + 0)) ((-1) + (1 * (ga h (819 + 2 * k) 1) + 0)) = 0 + (1 * (ga h (819 + 2 * k + 1) ((ga h (819 + 2 * k) 1) - 1)) + 0)
    rw [show (820 + (2 * (k : Int) + 0) : Int) = (((819 + 2 * k + 1) : Nat) : Int) by omega, show ((-1) + (1 * (ga h (819 + 2 * k) 1) + 0) : Int) = ((ga h (819 + 2 * k) 1) - 1) by omega, ga_gz (c := (819 + 2 * k + 1)) (i := ((ga h (819 + 2 * k) 1) - 1)) (by omega) (by omega)]
    omega
  · show (0 : Int) ≤ 0 + (1 * (k : Int) + 0)
    omega
  · show (0 : Int) ≤ 4 + ((-1) * (k : Int) + 0)
    omega
  · show (0 : Int) ≤ (-1) + (1 * (ga h (819 + 2 * k) 1) + 0)
    omega
theorem in_X8b_top1 {h : MH} (st : StrZ zT h) (q : zGl zG zi_X8b_top1 h) (k : Nat) (hk : k < 7) (g0 : 0 ≤ (-6) + (1 * (k : Int) + 0)) (g1 : 0 ≤ 6 + ((-1) * (k : Int) + 0)) (g2 : 0 ≤ (-1) + (1 * (ga h (819 + 2 * k) 1) + 0)) (ib1 : ((ga h (819 + 2 * k) 1) - 1) < 1099511627776) : 0 ≤ (-1) + (1 * (ga h (819 + 2 * k + 1) ((ga h (819 + 2 * k) 1) - 1)) + 0) := by
  have s := sbX8 st k hk
  unfold zGl at q
  rw [(zG_is (by decide +kernel : (match zG.1 zi_X8b_top1 with
      | some x => zBeq x ([60001, 60002, 60003], [((819, 832, 1, 1), (819, [(60001, 2)]), (1, []), (0, [(60002, 1)])), ((819, 832, 0, 1099511627775), (820, [(60001, 2)]), ((-1), [(60002, 1)]), (0, [(60003, 1)]))], [((-6), [(60001, 1)]), (6, [(60001, (-1))]), ((-1), [(60002, 1)])], [((-1), [(60003, 1)])])
      | none => false) = true))] at q
  have w := q (fun v => bif Nat.beq v 60002 then (ga h (819 + 2 * k) 1) else bif Nat.beq v 60003 then (ga h (819 + 2 * k + 1) ((ga h (819 + 2 * k) 1) - 1)) else (k : Int)) (fun v => bif Nat.beq v 60002 then (ga h (819 + 2 * k) 1) else bif Nat.beq v 60003 then (ga h (819 + 2 * k + 1) ((ga h (819 + 2 * k) 1) - 1)) else (k : Int)) (fun _ _ => rfl) (List.forall_mem_cons.mpr ⟨⟨?_, ?_⟩, List.forall_mem_cons.mpr ⟨⟨?_, ?_⟩, fun _ y => absurd y List.not_mem_nil⟩⟩) (List.forall_mem_cons.mpr ⟨?_, List.forall_mem_cons.mpr ⟨?_, List.forall_mem_cons.mpr ⟨?_, fun _ y => absurd y List.not_mem_nil⟩⟩⟩)
  · have z0 : (0 : Int) ≤ (-1) + (1 * (ga h (819 + 2 * k + 1) ((ga h (819 + 2 * k) 1) - 1)) + 0) := w _ (List.mem_cons_self)
    exact z0
  · show inZ (819, 832, 1, 1) (819 + (2 * (k : Int) + 0)) (1 + 0)
    exact ⟨⟨by show (819 : Int) ≤ _; omega, Or.inr (by show _ ≤ (832 : Int); omega)⟩, Or.inr ⟨by show (1 : Int) ≤ _; omega, by show _ ≤ (1 : Int); omega⟩⟩
  · show gz h (819 + (2 * (k : Int) + 0)) (1 + 0) = 0 + (1 * (ga h (819 + 2 * k) 1) + 0)
    rw [show (819 + (2 * (k : Int) + 0) : Int) = (((819 + 2 * k) : Nat) : Int) by omega, show (1 + 0 : Int) = 1 by omega, ga_gz (c := (819 + 2 * k)) (i := 1) (by omega) (by omega)]
    omega
  · show inZ (819, 832, 0, 1099511627775) (820 + (2 * (k : Int) + 0)) ((-1) + (1 * (ga h (819 + 2 * k) 1) + 0))
    exact ⟨⟨by show (819 : Int) ≤ _; omega, Or.inr (by show _ ≤ (832 : Int); omega)⟩, Or.inr ⟨by show (0 : Int) ≤ _; omega, by show _ ≤ (1099511627775 : Int); omega⟩⟩
  · show gz h (820 + (2 * (k : Int) + 0)) ((-1) + (1 * (ga h (819 + 2 * k) 1) + 0)) = 0 + (1 * (ga h (819 + 2 * k + 1) ((ga h (819 + 2 * k) 1) - 1)) + 0)
    rw [show (820 + (2 * (k : Int) + 0) : Int) = (((819 + 2 * k + 1) : Nat) : Int) by omega, show ((-1) + (1 * (ga h (819 + 2 * k) 1) + 0) : Int) = ((ga h (819 + 2 * k) 1) - 1) by omega, ga_gz (c := (819 + 2 * k + 1)) (i := ((ga h (819 + 2 * k) 1) - 1)) (by omega) (by omega)]
    omega
  · show (0 : Int) ≤ (-6) + (1 * (k : Int) + 0)
    omega
  · show (0 : Int) ≤ 6 + ((-1) * (k : Int) + 0)
    omega
  · show (0 : Int) ≤ (-1) + (1 * (ga h (819 + 2 * k) 1) + 0)
    omega
theorem FBX8.of {h : MH} (st : StrZ zT h) (c1 : zGl zG zi_X8b_len h) (c2 : zGl zG zi_X8b_sg h) (c3 : zGl zG zi_X8b_lb h) (c4 : zGl zG zi_X8b_top0 h) (c5 : zGl zG zi_X8b_top1 h) : FBX8 h := fun k hk => by
  have s := sbX8 st k hk
  have a := in_X8b_len st c1 k hk (by omega) (by omega)
  have b := in_X8b_sg st c2 k hk (by omega) (by omega)
  have r9 := rmX8_b k
  have l9 := s.2.1.2.2 (by decide)
  refine ⟨s, by omega, fun j j0 j1 => ?_, by omega, fun t q => ?_⟩
  · have := in_X8b_lb st c3 k hk j (by omega) (by omega) (by omega) j1
    omega
  · rcases t with t | t
    · have := in_X8b_top0 st c4 k hk (by omega) (by omega) (by omega) (by omega)
      omega
    · have := in_X8b_top1 st c5 k hk (by omega) (by omega) (by omega) (by omega)
      omega
theorem out_X8b_rf {h : MH} (st : StrZ zT h) (f : FBX8 h) : zGl zG zi_X8b_rf h := by
  unfold zGl
  rw [(zG_is (by decide +kernel : (match zG.1 zi_X8b_rf with
      | some x => zBeq x ([60001, 60002], [((819, 832, 0, 0), (819, [(60001, 2)]), (0, []), (0, [(60002, 1)]))], [(0, [(60001, 1)]), (6, [(60001, (-1))])], [((-820), [(60001, (-2)), (60002, 1)]), (820, [(60001, 2), (60002, (-1))])])
      | none => false) = true))]
  intro ρ β _ hE hG c hc
  have g0 : (0 : Int) ≤ 0 + (1 * β 60001 + 0) := hG _ (List.mem_cons_self)
  have g1 : (0 : Int) ≤ 6 + ((-1) * β 60001 + 0) := hG _ (List.mem_cons_of_mem _ List.mem_cons_self)
  obtain ⟨k, ek⟩ : ∃ k : Nat, β 60001 = (k : Int) := ⟨(β 60001).toNat, by omega⟩
  have hk : k < 7 := by omega
  obtain ⟨s, l, d, sg, tp⟩ := f k hk
  have i0 : inZ (819, 832, 0, 0) (819 + (2 * β 60001 + 0)) (0 + 0) := (hE _ (List.mem_cons_self)).1
  have w0 : gz h (819 + (2 * β 60001 + 0)) (0 + 0) = 0 + (1 * β 60002 + 0) := (hE _ (List.mem_cons_self)).2
  rw [show (819 + (2 * β 60001 + 0) : Int) = (((819 + 2 * k) : Nat) : Int) by omega, show (0 + 0 : Int) = 0 by omega, ga_gz (c := (819 + 2 * k)) (i := 0) (by omega) (by have := rmX8_b k; omega)] at w0
  have rr := s.2.2
  have rr : ga h (819 + 2 * k) 0 = ((819 + 2 * k + 1 : Nat) : Int) := rr
  simp only [List.mem_cons, List.not_mem_nil, or_false] at hc
  rcases hc with rfl | rfl
  · show (0 : Int) ≤ (-820) + ((-2) * β 60001 + (1 * β 60002 + 0))
    omega
  · show (0 : Int) ≤ 820 + (2 * β 60001 + ((-1) * β 60002 + 0))
    omega
theorem out_X8b_len {h : MH} (st : StrZ zT h) (f : FBX8 h) : zGl zG zi_X8b_len h := by
  unfold zGl
  rw [(zG_is (by decide +kernel : (match zG.1 zi_X8b_len with
      | some x => zBeq x ([60001, 60002, 60003], [((819, 832, 1, 1), (819, [(60001, 2)]), (1, []), (0, [(60002, 1)])), ((819, 832, 1099511627777, 1099511627777), (820, [(60001, 2)]), (1099511627777, []), (0, [(60003, 1)]))], [(0, [(60001, 1)]), (6, [(60001, (-1))])], [(0, [(60002, 1)]), (0, [(60002, (-1)), (60003, 1)])])
      | none => false) = true))]
  intro ρ β _ hE hG c hc
  have g0 : (0 : Int) ≤ 0 + (1 * β 60001 + 0) := hG _ (List.mem_cons_self)
  have g1 : (0 : Int) ≤ 6 + ((-1) * β 60001 + 0) := hG _ (List.mem_cons_of_mem _ List.mem_cons_self)
  obtain ⟨k, ek⟩ : ∃ k : Nat, β 60001 = (k : Int) := ⟨(β 60001).toNat, by omega⟩
  have hk : k < 7 := by omega
  obtain ⟨s, l, d, sg, tp⟩ := f k hk
  have i0 : inZ (819, 832, 1, 1) (819 + (2 * β 60001 + 0)) (1 + 0) := (hE _ (List.mem_cons_self)).1
  have w0 : gz h (819 + (2 * β 60001 + 0)) (1 + 0) = 0 + (1 * β 60002 + 0) := (hE _ (List.mem_cons_self)).2
  rw [show (819 + (2 * β 60001 + 0) : Int) = (((819 + 2 * k) : Nat) : Int) by omega, show (1 + 0 : Int) = 1 by omega, ga_gz (c := (819 + 2 * k)) (i := 1) (by omega) (by have := rmX8_b k; omega)] at w0
  have i1 : inZ (819, 832, 1099511627777, 1099511627777) (820 + (2 * β 60001 + 0)) (1099511627777 + 0) := (hE _ (List.mem_cons_of_mem _ List.mem_cons_self)).1
  have w1 : gz h (820 + (2 * β 60001 + 0)) (1099511627777 + 0) = 0 + (1 * β 60003 + 0) := (hE _ (List.mem_cons_of_mem _ List.mem_cons_self)).2
  rw [show (820 + (2 * β 60001 + 0) : Int) = (((819 + 2 * k + 1) : Nat) : Int) by omega, show (1099511627777 + 0 : Int) = 1099511627777 by decide, gz_len s.2.1.1, s.2.1.2.2 (by decide)] at w1
  simp only [List.mem_cons, List.not_mem_nil, or_false] at hc
  rcases hc with rfl | rfl
  · show (0 : Int) ≤ 0 + (1 * β 60002 + 0)
    omega
  · show (0 : Int) ≤ 0 + ((-1) * β 60002 + (1 * β 60003 + 0))
    omega
theorem out_X8b_sg {h : MH} (st : StrZ zT h) (f : FBX8 h) : zGl zG zi_X8b_sg h := by
  unfold zGl
  rw [(zG_is (by decide +kernel : (match zG.1 zi_X8b_sg with
      | some x => zBeq x ([60001, 60002], [((819, 832, 2, 2), (819, [(60001, 2)]), (2, []), (0, [(60002, 1)]))], [(0, [(60001, 1)]), (6, [(60001, (-1))])], [(1, [(60002, 1)]), (1, [(60002, (-1))])])
      | none => false) = true))]
  intro ρ β _ hE hG c hc
  have g0 : (0 : Int) ≤ 0 + (1 * β 60001 + 0) := hG _ (List.mem_cons_self)
  have g1 : (0 : Int) ≤ 6 + ((-1) * β 60001 + 0) := hG _ (List.mem_cons_of_mem _ List.mem_cons_self)
  obtain ⟨k, ek⟩ : ∃ k : Nat, β 60001 = (k : Int) := ⟨(β 60001).toNat, by omega⟩
  have hk : k < 7 := by omega
  obtain ⟨s, l, d, sg, tp⟩ := f k hk
  have i0 : inZ (819, 832, 2, 2) (819 + (2 * β 60001 + 0)) (2 + 0) := (hE _ (List.mem_cons_self)).1
  have w0 : gz h (819 + (2 * β 60001 + 0)) (2 + 0) = 0 + (1 * β 60002 + 0) := (hE _ (List.mem_cons_self)).2
  rw [show (819 + (2 * β 60001 + 0) : Int) = (((819 + 2 * k) : Nat) : Int) by omega, show (2 + 0 : Int) = 2 by omega, ga_gz (c := (819 + 2 * k)) (i := 2) (by omega) (by have := rmX8_b k; omega)] at w0
  simp only [List.mem_cons, List.not_mem_nil, or_false] at hc
  rcases hc with rfl | rfl
  · show (0 : Int) ≤ 1 + (1 * β 60002 + 0)
    omega
  · show (0 : Int) ≤ 1 + ((-1) * β 60002 + 0)
    omega
theorem out_X8b_lb {h : MH} (st : StrZ zT h) (f : FBX8 h) : zGl zG zi_X8b_lb h := by
  unfold zGl
  rw [(zG_is (by decide +kernel : (match zG.1 zi_X8b_lb with
      | some x => zBeq x ([60001, 60002, 60004], [((819, 832, 0, 1099511627775), (820, [(60001, 2)]), (0, [(60004, 1)]), (0, [(60002, 1)]))], [(0, [(60001, 1)]), (6, [(60001, (-1))]), (0, [(60004, 1)])], [(0, [(60002, 1)]), (1073741823, [(60002, (-1))])])
      | none => false) = true))]
  intro ρ β _ hE hG c hc
  have g0 : (0 : Int) ≤ 0 + (1 * β 60001 + 0) := hG _ (List.mem_cons_self)
  have g1 : (0 : Int) ≤ 6 + ((-1) * β 60001 + 0) := hG _ (List.mem_cons_of_mem _ List.mem_cons_self)
  have g2 : (0 : Int) ≤ 0 + (1 * β 60004 + 0) := hG _ (List.mem_cons_of_mem _ (List.mem_cons_of_mem _ List.mem_cons_self))
  obtain ⟨k, ek⟩ : ∃ k : Nat, β 60001 = (k : Int) := ⟨(β 60001).toNat, by omega⟩
  have hk : k < 7 := by omega
  obtain ⟨s, l, d, sg, tp⟩ := f k hk
  obtain ⟨i, ei⟩ : ∃ i : Int, i = β 60004 := ⟨_, rfl⟩
  have i0 : inZ (819, 832, 0, 1099511627775) (820 + (2 * β 60001 + 0)) (0 + (1 * β 60004 + 0)) := (hE _ (List.mem_cons_self)).1
  have w0 : gz h (820 + (2 * β 60001 + 0)) (0 + (1 * β 60004 + 0)) = 0 + (1 * β 60002 + 0) := (hE _ (List.mem_cons_self)).2
  have ib : i < 1099511627776 := by
    rcases i0.2 with q | q
    · exact absurd q (by decide)
    · have q2 : (0 + (1 * β 60004 + 0) : Int) ≤ 1099511627775 := q.2
      omega
  rw [show (820 + (2 * β 60001 + 0) : Int) = (((819 + 2 * k + 1) : Nat) : Int) by omega, show (0 + (1 * β 60004 + 0) : Int) = i by omega, ga_gz (c := (819 + 2 * k + 1)) (i := i) (by omega) (by have := rmX8_b k; omega)] at w0
  have dd := d i (by omega) ib
  simp only [List.mem_cons, List.not_mem_nil, or_false] at hc
  rcases hc with rfl | rfl
  · show (0 : Int) ≤ 0 + (1 * β 60002 + 0)
    omega
  · show (0 : Int) ≤ 1073741823 + ((-1) * β 60002 + 0)
    omega
theorem out_X8b_top0 {h : MH} (st : StrZ zT h) (f : FBX8 h) : zGl zG zi_X8b_top0 h := by
  unfold zGl
  rw [(zG_is (by decide +kernel : (match zG.1 zi_X8b_top0 with
      | some x => zBeq x ([60001, 60002, 60003], [((819, 832, 1, 1), (819, [(60001, 2)]), (1, []), (0, [(60002, 1)])), ((819, 832, 0, 1099511627775), (820, [(60001, 2)]), ((-1), [(60002, 1)]), (0, [(60003, 1)]))], [(0, [(60001, 1)]), (4, [(60001, (-1))]), ((-1), [(60002, 1)])], [((-1), [(60003, 1)])])
      | none => false) = true))]
  intro ρ β _ hE hG c hc
  have g0 : (0 : Int) ≤ 0 + (1 * β 60001 + 0) := hG _ (List.mem_cons_self)
  have g1 : (0 : Int) ≤ 4 + ((-1) * β 60001 + 0) := hG _ (List.mem_cons_of_mem _ List.mem_cons_self)
  have g2 : (0 : Int) ≤ (-1) + (1 * β 60002 + 0) := hG _ (List.mem_cons_of_mem _ (List.mem_cons_of_mem _ List.mem_cons_self))
  obtain ⟨k, ek⟩ : ∃ k : Nat, β 60001 = (k : Int) := ⟨(β 60001).toNat, by omega⟩
  have hk : k < 7 := by omega
  obtain ⟨s, l, d, sg, tp⟩ := f k hk
  have i0 : inZ (819, 832, 1, 1) (819 + (2 * β 60001 + 0)) (1 + 0) := (hE _ (List.mem_cons_self)).1
  have w0 : gz h (819 + (2 * β 60001 + 0)) (1 + 0) = 0 + (1 * β 60002 + 0) := (hE _ (List.mem_cons_self)).2
  rw [show (819 + (2 * β 60001 + 0) : Int) = (((819 + 2 * k) : Nat) : Int) by omega, show (1 + 0 : Int) = 1 by omega, ga_gz (c := (819 + 2 * k)) (i := 1) (by omega) (by have := rmX8_b k; omega)] at w0
  have i1 : inZ (819, 832, 0, 1099511627775) (820 + (2 * β 60001 + 0)) ((-1) + (1 * β 60002 + 0)) := (hE _ (List.mem_cons_of_mem _ List.mem_cons_self)).1
  have w1 : gz h (820 + (2 * β 60001 + 0)) ((-1) + (1 * β 60002 + 0)) = 0 + (1 * β 60003 + 0) := (hE _ (List.mem_cons_of_mem _ List.mem_cons_self)).2
  have b1 : β 60002 = ga h (819 + 2 * k) 1 := by omega
  rw [show (820 + (2 * β 60001 + 0) : Int) = (((819 + 2 * k + 1) : Nat) : Int) by omega, show ((-1) + (1 * β 60002 + 0) : Int) = (ga h (819 + 2 * k) 1 - 1) by omega, ga_gz (c := (819 + 2 * k + 1)) (i := (ga h (819 + 2 * k) 1 - 1)) (by omega) (by have := rmX8_b k; omega)] at w1
  have tt := tp (Or.inl (by omega)) (by omega)
  simp only [List.mem_cons, List.not_mem_nil, or_false] at hc
  subst hc
  · show (0 : Int) ≤ (-1) + (1 * β 60003 + 0)
    omega
theorem out_X8b_top1 {h : MH} (st : StrZ zT h) (f : FBX8 h) : zGl zG zi_X8b_top1 h := by
  unfold zGl
  rw [(zG_is (by decide +kernel : (match zG.1 zi_X8b_top1 with
      | some x => zBeq x ([60001, 60002, 60003], [((819, 832, 1, 1), (819, [(60001, 2)]), (1, []), (0, [(60002, 1)])), ((819, 832, 0, 1099511627775), (820, [(60001, 2)]), ((-1), [(60002, 1)]), (0, [(60003, 1)]))], [((-6), [(60001, 1)]), (6, [(60001, (-1))]), ((-1), [(60002, 1)])], [((-1), [(60003, 1)])])
      | none => false) = true))]
  intro ρ β _ hE hG c hc
  have g0 : (0 : Int) ≤ (-6) + (1 * β 60001 + 0) := hG _ (List.mem_cons_self)
  have g1 : (0 : Int) ≤ 6 + ((-1) * β 60001 + 0) := hG _ (List.mem_cons_of_mem _ List.mem_cons_self)
  have g2 : (0 : Int) ≤ (-1) + (1 * β 60002 + 0) := hG _ (List.mem_cons_of_mem _ (List.mem_cons_of_mem _ List.mem_cons_self))
  obtain ⟨k, ek⟩ : ∃ k : Nat, β 60001 = (k : Int) := ⟨(β 60001).toNat, by omega⟩
  have hk : k < 7 := by omega
  obtain ⟨s, l, d, sg, tp⟩ := f k hk
  have i0 : inZ (819, 832, 1, 1) (819 + (2 * β 60001 + 0)) (1 + 0) := (hE _ (List.mem_cons_self)).1
  have w0 : gz h (819 + (2 * β 60001 + 0)) (1 + 0) = 0 + (1 * β 60002 + 0) := (hE _ (List.mem_cons_self)).2
  rw [show (819 + (2 * β 60001 + 0) : Int) = (((819 + 2 * k) : Nat) : Int) by omega, show (1 + 0 : Int) = 1 by omega, ga_gz (c := (819 + 2 * k)) (i := 1) (by omega) (by have := rmX8_b k; omega)] at w0
  have i1 : inZ (819, 832, 0, 1099511627775) (820 + (2 * β 60001 + 0)) ((-1) + (1 * β 60002 + 0)) := (hE _ (List.mem_cons_of_mem _ List.mem_cons_self)).1
  have w1 : gz h (820 + (2 * β 60001 + 0)) ((-1) + (1 * β 60002 + 0)) = 0 + (1 * β 60003 + 0) := (hE _ (List.mem_cons_of_mem _ List.mem_cons_self)).2
  have b1 : β 60002 = ga h (819 + 2 * k) 1 := by omega
  rw [show (820 + (2 * β 60001 + 0) : Int) = (((819 + 2 * k + 1) : Nat) : Int) by omega, show ((-1) + (1 * β 60002 + 0) : Int) = (ga h (819 + 2 * k) 1 - 1) by omega, ga_gz (c := (819 + 2 * k + 1)) (i := (ga h (819 + 2 * k) 1 - 1)) (by omega) (by have := rmX8_b k; omega)] at w1
  have tt := tp (Or.inr (by omega)) (by omega)
  simp only [List.mem_cons, List.not_mem_nil, or_false] at hc
  subst hc
  · show (0 : Int) ≤ (-1) + (1 * β 60003 + 0)
    omega
