/-! X1: a length from a size, a division that leaves nothing -/
theorem BV1.len {h : MH} {o W k : Nat} {V : Int} (b : BV1 h o W V) (W9 : W ≤ 1000) (v : V.natAbs < 1073741824 ^ k) : ga h o 1 ≤ (k : Int) := by
  obtain ⟨b1, b2, b3, _, b5⟩ := b
  by_cases w : ga h o 1 ≤ (k : Int)
  · exact w
  · exfalso
    obtain ⟨L, eL⟩ : ∃ L : Nat, ga h o 1 = ((L + 1 : Nat) : Int) := ⟨(ga h o 1).toNat - 1, by omega⟩
    have t := b5 (by omega)
    rw [eL] at t b3
    rw [show ((L + 1 : Nat) : Int) - 1 = (L : Int) by omega] at t
    rw [show ((L + 1 : Nat) : Int).toNat = L + 1 by omega] at b3
    have a := nv1_top (f := ga h (o + 1)) (n := L) (fun j x y => b2 j x (by omega)) t
    have c := p30_mono (show k ≤ L by omega)
    have d : ((1073741824 ^ k : Nat) : Int) = 1073741824 ^ k := Int.natCast_pow _ _
    omega
theorem div_exact {h h' : MH} {o W v V q Y Z : Nat} {Vo Vv z : Int} (W9 : W ≤ 1000) (V9 : V ≤ 1000) (bo : BV1 h o W Vo) (bv : BV1 h v V Vv) (e : Vo = Vv * z) (v0 : Vv ≠ 0) (c1 : ga h o 1 < (W : Int)) (c2 : ga h v 1 ≤ (Z : Int)) (c3 : ga h o 1 < (Y : Int)) (dq : Dg1 (ga h' (q + 1)) 1099511627776)
    (D : ((ga h v 1 = 0 ∨ ga h o 1 < ga h v 1 ∨ (W : Int) ≤ ga h o 1 ∨ (Z : Int) < ga h v 1 ∨ (Y : Int) ≤ ga h o 1 - ga h v 1) ∧ ga h' q 1 = 0 ∧ ga h' q 2 = 0) ∨ (¬ (ga h v 1 = 0 ∨ ga h o 1 < ga h v 1 ∨ (W : Int) ≤ ga h o 1 ∨ (Z : Int) < ga h v 1 ∨ (Y : Int) ≤ ga h o 1 - ga h v 1) ∧ (0 ≤ ga h' q 1 ∧ ga h' q 1 ≤ ga h o 1 - ga h v 1 + 1) ∧ nv1 (ga h' (q + 1)) (ga h' q 1).toNat = nv1 (ga h (o + 1)) (ga h o 1).toNat / nv1 (ga h (v + 1)) (ga h v 1).toNat ∧ (1 ≤ ga h' q 1 → 1 ≤ ga h' (q + 1) (ga h' q 1 - 1)) ∧ ga h' q 2 = (if ga h' q 1 = 0 then 0 else ga h o 2 * ga h v 2))) : BV1 h' q Y z := by
  obtain ⟨o1, o2, o3, o4, o5⟩ := bo
  obtain ⟨v1, v2, v3, v4, v5⟩ := bv
  have na : (Vo.natAbs : Int) = Vv.natAbs * z.natAbs := by
    rw [e, Int.natAbs_mul]
    exact Int.natCast_mul _ _
  have vp : 0 < (Vv.natAbs : Int) := by omega
  rcases D with ⟨c, l0, s0⟩ | ⟨c, qb, qv, qt, qs⟩
  · have z0 : z = 0 := by
      by_cases w0 : ga h v 1 = 0
      · exfalso
        rw [w0] at v3
        have : (0 : Int) = (Vv.natAbs : Int) := v3
        omega
      · have lt : ga h o 1 < ga h v 1 := by omega
        have a := nv1_len (f := ga h (o + 1)) (g := ga h (v + 1)) (n := (ga h o 1).toNat) (m := (ga h v 1).toNat) (by omega) (fun j x y => o2 j x (by omega)) (fun j x y => v2 j x (by omega)) (by
          rw [show ((ga h v 1).toNat : Int) - 1 = ga h v 1 - 1 by omega]
          exact v5 (by omega))
        rw [o3, v3, na] at a
        by_cases w : z = 0
        · exact w
        · exfalso
          have := Int.mul_le_mul_of_nonneg_left (show (1 : Int) ≤ z.natAbs by omega) (Int.le_of_lt vp)
          omega
    subst z0
    refine ⟨by rw [l0]; omega, dq, ?_, s0, fun w => ?_⟩
    · rw [l0]
      rfl
    · rw [l0] at w
      omega
  · rw [o3, v3, na, Int.mul_ediv_cancel_left _ (by omega)] at qv
    refine ⟨by omega, dq, qv, ?_, qt⟩
    rw [qs]
    by_cases w : ga h' q 1 = 0
    · rw [if_pos w]
      rw [w] at qv
      have : (0 : Int) = (z.natAbs : Int) := qv
      have z0 : z = 0 := by omega
      rw [z0]
      rfl
    · rw [if_neg w, o4, v4, e, Int.sign_mul, Int.mul_comm Vv.sign, Int.mul_assoc]
      rcases sg_case Vv with ⟨_, x⟩ | ⟨x, _⟩ | ⟨_, x⟩
      · rw [x]
        omega
      · exact absurd x v0
      · rw [x]
        omega
theorem h_X1_divX {h : MH} {o W v V q Y s Z : Nat} {Vo Vv z : Int} (o4 : 3 ≤ o) (W9 : W ≤ 1000) (v4 : 3 ≤ v) (V9 : V ≤ 1000) (q4 : 3 ≤ q) (Y9 : Y ≤ 1000) (s4 : 3 ≤ s) (Z9 : Z ≤ 1000) (ov : o + 1 < v ∨ v + 1 < o) (oq : o + 1 < q ∨ q + 1 < o) (os : o + 1 < s ∨ s + 1 < o) (vq : v + 1 < q ∨ q + 1 < v) (vs : v + 1 < s ∨ s + 1 < v) (qs : q + 1 < s ∨ s + 1 < q) (bo : BV1 h o W Vo) (bv : BV1 h v V Vv) (e : Vo = Vv * z) (v0 : Vv ≠ 0) (c1 : ga h o 1 < (W : Int)) (c2 : ga h v 1 ≤ (Z : Int)) (c3 : ga h o 1 < (Y : Int)) (dq : Dg1 (ga h (q + 1)) 1099511627776) (ds : Dg1 (ga h (s + 1)) 1099511627776) (g : G1 [(o, W), (v, V), (q, Y), (s, Z)] h) : MCal KX1_divide yX1_divide 0 0 [(2, ((o : Nat) : Int)), (2, ((v : Nat) : Int)), (2, ((q : Nat) : Int)), (2, ((s : Nat) : Int))] h (mRV fun h' => Only [o, o + 1, q, q + 1, s + 1] h h' ∧ G1 [(o, W), (v, V), (q, Y), (s, Z)] h' ∧ Dg1 (ga h' (o + 1)) 1099511627776 ∧ Dg1 (ga h' (s + 1)) 1099511627776 ∧ BV1 h' q Y z) := by
  refine MCal.mono (fun r h' p => ?_) (h_X1_divide o4 W9 v4 V9 q4 Y9 s4 Z9 (Or.inr ov) oq os vq vs qs bo.2.1 bv.2.1 dq ds bo.1 bv.1 bv.2.2.2.2 (by rw [bo.2.2.2.1]; exact sign_b _) (by rw [bv.2.2.2.1]; exact sign_b _) g)
  obtain ⟨p0, p1, p2, p3, p4, p5, p6⟩ := p
  refine ⟨p0, p1, p2, p3, p5, div_exact W9 V9 bo bv e v0 c1 c2 c3 p4 ?_⟩
  rcases p6 with ⟨a, b, c, _, _⟩ | ⟨a, b, c, d, e, _⟩
  · exact Or.inl ⟨a, b, c⟩
  · exact Or.inr ⟨a, b, c, d, e⟩
