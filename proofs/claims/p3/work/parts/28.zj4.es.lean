/-! X0: what a frame's numbers do, one by one -/
theorem mRV_mono {P Q : MH → Prop} (f : ∀ h, P h → Q h) (r : MO) (h' : MH) (p : mRV P r h') : mRV Q r h' := ⟨p.1, f h' p.2⟩
theorem isE.b {o W : Nat} (m : isE o W) : 209 ≤ o ∧ o ≤ 501 ∧ o % 2 = 1 ∧ W ≤ 1000 ∧ 3 ≤ o ∧ 3 ≤ W ∧ (o ≤ 463 ∨ 491 ≤ o) ∧ (o ≤ 463 → W = 12) ∧ (491 ≤ o → W = 160) := by
  rcases m with ⟨i, a, b, c⟩ | ⟨i, a, b, c⟩ <;> (subst b c; omega)
theorem isE.u {o W W' : Nat} (m : isE o W) (m' : isE o W') : W = W' := by
  have a := m.b
  have b := m'.b
  omega
theorem aE {o : Nat} (j : Nat) (hj : j < 6) (e : o = 491 + 2 * j) : isE o 160 := Or.inr ⟨j, hj, e, rfl⟩
def DB (h : MH) (o W : Nat) : Prop := Dg1 (ga h (o + 1)) 1099511627776 ∧ (0 ≤ ga h o 1 ∧ ga h o 1 ≤ (W : Int)) ∧ (-1 ≤ ga h o 2 ∧ ga h o 2 ≤ 1) ∧ (491 ≤ o → o ≤ 499 → 1 ≤ ga h o 1 → 1 ≤ ga h (o + 1) (ga h o 1 - 1))
theorem BV1.db {h : MH} {o W : Nat} {V : Int} (b : BV1 h o W V) : DB h o W := ⟨b.2.1, b.1, by rw [b.2.2.2.1]; exact sign_b _, fun _ _ => b.2.2.2.2⟩
theorem DB.ol {h h' : MH} {cs : List Nat} {o W : Nat} (b : DB h o W) (a : Only cs h h') (n1 : o ∉ cs) (n2 : o + 1 ∉ cs) : DB h' o W := by
  unfold DB
  rw [onlyF a n1, onlyF a n2]
  exact b
def ED (h : MH) : Prop := ∀ o W, isE o W → DB h o W
def ES (n : Int) (h : MH) : Prop := E0 n h ∧ ED h
theorem ES.ob {n : Int} {h : MH} (g : ES n h) {o W : Nat} (m : isE o W) : SB o W h := g.1.2.2.2.2.2 o W m
theorem ES.dg {n : Int} {h : MH} (g : ES n h) {o W : Nat} (m : isE o W) : Dg1 (ga h (o + 1)) 1099511627776 := (g.2 o W m).1
theorem ES.call {n : Int} {h h' : MH} {cs : List Nat} {l : List (Nat × Nat)} (g : ES n h) (a : Only cs h h') (g' : G1 l h') (nn : ∀ o W, isE o W → o ∈ cs → (o, W) ∈ l) (dd : ∀ o W, isE o W → (o ∈ cs ∨ o + 1 ∈ cs) → DB h' o W) (nb : ∀ c ∈ cs, 209 ≤ c) : ES n h' :=
  ⟨g.1.call a g' nn (fun m => absurd (nb _ m) (by decide)) (fun m => absurd (nb _ m) (by decide)) (fun m => absurd (nb _ m) (by decide)), fun o W m => by
    by_cases w : o ∈ cs ∨ o + 1 ∈ cs
    · exact dd o W m w
    · exact (g.2 o W m).ol a (fun x => w (Or.inl x)) (fun x => w (Or.inr x))⟩
theorem ES.one {n : Int} {h h' : MH} {o W : Nat} (g : ES n h) (m : isE o W) (a : Only [o, o + 1] h h') (s : SB o W h') (d : DB h' o W) : ES n h' := by
  have b := m.b
  refine g.call a (l := [(o, W)]) (fun q hq => ?_) (fun o' W' m' hm => ?_) (fun o' W' m' hm => ?_) (fun c hc => ?_)
  · rw [List.mem_singleton] at hq
    subst hq
    exact s
  · have b' := m'.b
    simp only [List.mem_cons, List.not_mem_nil, or_false] at hm
    have e : o' = o := by omega
    subst e
    rw [m'.u m]
    exact List.mem_cons_self
  · have b' := m'.b
    simp only [List.mem_cons, List.not_mem_nil, or_false] at hm
    have e : o' = o := by omega
    subst e
    rw [m'.u m]
    exact d
  · simp only [List.mem_cons, List.not_mem_nil, or_false] at hc
    omega
theorem BV1.ol {h h' : MH} {cs : List Nat} {o W : Nat} {V : Int} (b : BV1 h o W V) (a : Only cs h h') (n1 : o ∉ cs) (n2 : o + 1 ∉ cs) : BV1 h' o W V := b.cg (onlyF a n1) (onlyF a n2)
theorem BV1.o2 {h h' : MH} {o W q : Nat} {V : Int} (b : BV1 h o W V) (a : Only [q, q + 1] h h') (n : o + 1 < q ∨ q + 1 < o) : BV1 h' o W V := b.ol a (by simp only [List.mem_cons, List.not_mem_nil, or_false]; omega) (by simp only [List.mem_cons, List.not_mem_nil, or_false]; omega)
theorem isE.ap {o W a A : Nat} (m : isE o W) (m' : isE a A) (n : o ≠ a) : o + 1 < a ∨ a + 1 < o := by
  have := m.b
  have := m'.b
  omega
theorem e_product {n : Int} {h : MH} {o W a A b B : Nat} {Va Vb : Int} (g : ES n h) (mo : isE o W) (ma : isE a A) (mb : isE b B) (oa : o ≠ a) (ob : o ≠ b) (ba : BV1 h a A Va) (bb : BV1 h b B Vb) (rm : ga h a 1 + ga h b 1 ≤ (W : Int)) : MCal KX1_product_ yX1_product_ 0 0 [(2, ((o : Nat) : Int)), (2, ((a : Nat) : Int)), (2, ((b : Nat) : Int))] h (mRV fun h' => Only [o, o + 1] h h' ∧ ES n h' ∧ BV1 h' o W (Va * Vb)) := by
  have b1 := mo.b
  have b2 := ma.b
  have b3 := mb.b
  refine MCal.mono (mRV_mono fun h' p => ⟨p.1, g.one mo p.1 (p.2.1 _ List.mem_cons_self) (BV1.db p.2.2), p.2.2⟩) (h_X1_product_ (by omega) (by omega) (by omega) (by omega) (by omega) (by omega) (mo.ap ma oa) (mo.ap mb ob) ba bb rm (g.dg mo) fun q hq => ?_)
  simp only [List.mem_cons, List.not_mem_nil, or_false] at hq
  rcases hq with rfl | rfl | rfl
  · exact g.ob mo
  · exact g.ob ma
  · exact g.ob mb
theorem e_copy {n : Int} {h : MH} {o W a A : Nat} {V : Int} (g : ES n h) (mo : isE o W) (ma : isE a A) (oa : o ≠ a) (ba : BV1 h a A V) (lw : ga h a 1 ≤ (W : Int)) : MCal KX1_copy yX1_copy 0 0 [(2, ((o : Nat) : Int)), (2, ((a : Nat) : Int))] h (mRV fun h' => Only [o, o + 1] h h' ∧ ES n h' ∧ BV1 h' o W V) := by
  have b1 := mo.b
  have b2 := ma.b
  refine MCal.mono (mRV_mono fun h' p => ⟨p.1, g.one mo p.1 (p.2.1 _ List.mem_cons_self) (BV1.db p.2.2), p.2.2⟩) (h_X1_copy (by omega) (by omega) (by omega) (by omega) (mo.ap ma oa) ba lw (g.dg mo) fun q hq => ?_)
  simp only [List.mem_cons, List.not_mem_nil, or_false] at hq
  rcases hq with rfl | rfl
  · exact g.ob mo
  · exact g.ob ma
theorem e_set {n : Int} {h : MH} {o W : Nat} {v : Int} (g : ES n h) (mo : isE o W) : MCal KX1_set yX1_set 0 0 [(2, ((o : Nat) : Int)), (1, v)] h (mRV fun h' => Only [o, o + 1] h h' ∧ ES n h' ∧ BV1 h' o W v) := by
  have b1 := mo.b
  refine MCal.mono (mRV_mono fun h' p => ⟨p.1, g.one mo p.1 (p.2.1 _ List.mem_cons_self) (BV1.db p.2.2), p.2.2⟩) (h_X1_set (by omega) (by omega) (by omega) (g.dg mo) fun q hq => ?_)
  rw [List.mem_singleton] at hq
  subst hq
  exact g.ob mo
theorem e_sub {n : Int} {h : MH} {o W a A : Nat} {Vo Va : Int} (g : ES n h) (mo : isE o W) (ma : isE a A) (oa : o ≠ a) (bo : BV1 h o W Vo) (ba : BV1 h a A Va) (r1 : ga h o 1 + 1 ≤ (W : Int)) (r2 : ga h a 1 + 1 ≤ (W : Int)) : MCal KX1_add yX1_add 0 0 [(2, ((o : Nat) : Int)), (2, ((a : Nat) : Int)), (0, (-1))] h (mRV fun h' => Only [o, o + 1] h h' ∧ ES n h' ∧ BV1 h' o W (Vo - Va)) := by
  have b1 := mo.b
  have b2 := ma.b
  refine MCal.mono (mRV_mono fun h' p => ⟨p.1, g.one mo p.1 (p.2.1 _ List.mem_cons_self) (BV1.db p.2.2), ?_⟩) (h_X1_add (by omega) (by omega) (by omega) (by omega) (Or.inr rfl) (mo.ap ma oa) bo ba r1 r2 fun q hq => ?_)
  · rw [show Vo - Va = Vo + -1 * Va by omega]
    exact p.2.2
  · simp only [List.mem_cons, List.not_mem_nil, or_false] at hq
    rcases hq with rfl | rfl
    · exact g.ob mo
    · exact g.ob ma
theorem e_div {n : Int} {h : MH} {Vo Vv z : Int} (g : ES n h) (bo : BV1 h 495 160 Vo) (bv : BV1 h 491 160 Vv) (e : Vo = Vv * z) (v0 : Vv ≠ 0) (c1 : ga h 495 1 < 160) : MCal KX1_divide yX1_divide 0 0 [(2, ((495 : Nat) : Int)), (2, ((491 : Nat) : Int)), (2, ((499 : Nat) : Int)), (2, ((501 : Nat) : Int))] h (mRV fun h' => Only [495, 496, 499, 500, 501, 502] h h' ∧ ES n h' ∧ BV1 h' 499 160 z) := by
  have lv := bv.1
  refine MCal.mono (mRV_mono fun h' p => ?_) (h_X1_divide (o := 495) (W := 160) (v := 491) (V := 160) (q := 499) (Y := 160) (s := 501) (Z := 160) (by decide) (by decide) (by decide) (by decide) (by decide) (by decide) (by decide) (by decide) (by decide) (by decide) (by decide) (by decide) (by decide) (by decide) bo.2.1 bv.2.1 (g.dg (aE 4 (by decide) rfl)) (g.dg (aE 5 (by decide) rfl)) bo.1 bv.1 bv.2.2.2.2 (by rw [bo.2.2.2.1]; exact sign_b _) (by rw [bv.2.2.2.1]; exact sign_b _) fun q hq => ?_)
  · obtain ⟨p1, p2, p3, p4, p5, p6⟩ := p
    have a : Only [495, 496, 499, 500, 501, 502] h h' := p1.mono (by decide)
    have q9 : BV1 h' 499 160 z := div_exact (by decide) (by decide) bo bv e v0 (by omega) (by omega) (by omega) p4 (p6.imp (fun w => ⟨w.1, w.2.1, w.2.2.1⟩) (fun w => ⟨w.1, w.2.1, w.2.2.1, w.2.2.2.1, w.2.2.2.2.1⟩))
    have d5 : DB h' 495 160 := by
      rcases p6 with ⟨_, _, _, u, w⟩ | ⟨_, _, _, _, _, u, _, w, x⟩
      · have d := g.2 495 160 (aE 2 (by decide) rfl)
        unfold DB
        rw [u, show (495 + 1 : Nat) = 496 from rfl]
        rw [show (495 + 1 : Nat) = 496 from rfl] at w
        rw [w]
        exact d
      · refine ⟨p3, by omega, ?_, fun _ _ => w⟩
        rw [x, bo.2.2.2.1]
        have := sign_b Vo
        split <;> omega
    refine ⟨a, g.call a p2 (fun o W m hm => ?_) (fun o W m hm => ?_) (by decide), q9⟩
    · have b := m.b
      simp only [List.mem_cons, List.not_mem_nil, or_false] at hm
      have w : W = 160 := by omega
      subst w
      rcases (show o = 495 ∨ o = 499 ∨ o = 501 by omega) with rfl | rfl | rfl <;> simp
    · have b := m.b
      simp only [List.mem_cons, List.not_mem_nil, or_false] at hm
      have w : W = 160 := by omega
      subst w
      rcases (show o = 495 ∨ o = 499 ∨ o = 501 by omega) with rfl | rfl | rfl
      · exact d5
      · exact q9.db
      · have d := g.2 501 160 (aE 5 (by decide) rfl)
        have nm : (501 : Nat) ∉ [495, 495 + 1, 499, 499 + 1, 501 + 1] := by decide
        refine ⟨p5, ?_, ?_, fun _ w => absurd w (by decide)⟩
        · rw [p1.ga nm]
          exact d.2.1
        · rw [p1.ga nm]
          exact d.2.2.1
  · simp only [List.mem_cons, List.not_mem_nil, or_false] at hq
    rcases hq with rfl | rfl | rfl | rfl
    · exact g.ob (aE 2 (by decide) rfl)
    · exact g.ob (aE 0 (by decide) rfl)
    · exact g.ob (aE 4 (by decide) rfl)
    · exact g.ob (aE 5 (by decide) rfl)
section HR3
variable {K : mK} {Q : MO → MH → Prop} {mc ms i pc : Nat} {L : List (Nat × MV)} {S : List MV} {h : MH} {o : Nat} {P : MP} {zz : Int} {aa bb cc : Nat}
theorem hd_aid (ok : okP K o P = true) (hi : P.1[i]? = some (pc, 55, zz, aa, bb, cc)) {n : Int} (g : ES n h) (j a : Nat) (hj : j < 6) (e : a = 491 + 2 * j) (k : MW K Q mc ms (pcA P (i + 1)) L ((2, ((a : Nat) : Int)) :: S) h) : MW K Q mc ms (pcA P i) L ((0, ((j : Nat) : Int)) :: (2, ((193 : Nat) : Int)) :: S) h := by
  refine hd_aldR (n := 6) ok hi g.1.2.2.1 (Or.inr (Or.inr rfl)) (by omega) (by omega) (fun v ev => ?_)
  rw [g.1.2.2.2.2.1 _ (by omega) (by omega)] at ev
  have : v = ((a : Nat) : Int) := by omega
  rw [this]
  exact k
end HR3
/-- the cells of the numbers that an elimination may write -/
def eCs : List Nat := List.range' 209 256 ++ List.range' 491 12
theorem mem_eCs {c : Nat} : c ∈ eCs ↔ (209 ≤ c ∧ c ≤ 464) ∨ (491 ≤ c ∧ c ≤ 502) := by
  unfold eCs
  rw [List.mem_append, List.mem_range'_1, List.mem_range'_1]
  omega
theorem only_eCs {cs : List Nat} {h h' : MH} (a : Only cs h h') (m : ∀ c ∈ cs, (209 ≤ c ∧ c ≤ 464) ∨ (491 ≤ c ∧ c ≤ 502)) : Only eCs h h' := a.mono fun c hc => mem_eCs.mpr (m c hc)
theorem only_e2 {o W : Nat} {h h' : MH} (mo : isE o W) (a : Only [o, o + 1] h h') : Only eCs h h' := only_eCs a fun c hc => by
  have := mo.b
  simp only [List.mem_cons, List.not_mem_nil, or_false] at hc
  omega
/-- the values of all cells -/
def EV (n : Int) (V : Int → Int → Int) (h : MH) : Prop := ∀ x c : Int, 0 ≤ x → x < n → 0 ≤ c → c < 2 * n → BV1 h (eC x c) 12 (V x c)
theorem EV.ol {n : Int} {V : Int → Int → Int} {h h' : MH} {cs : List Nat} (e : EV n V h) (n8 : n ≤ 8) (a : Only cs h h') (m : ∀ c ∈ cs, c < 209 ∨ 464 < c) : EV n V h' := fun x c x0 x1 c0 c1 => by
  have b := eC_b (r := x) (c := c) ⟨x0, by omega⟩ ⟨c0, by omega⟩
  exact (e x c x0 x1 c0 c1).ol a (fun w => by have := m _ w; omega) (fun w => by have := m _ w; omega)
theorem EV.put {n r c : Int} {V V' : Int → Int → Int} {h h' : MH} (e : EV n V h) (n8 : n ≤ 8) (r0 : 0 ≤ r ∧ r < n) (c0 : 0 ≤ c ∧ c < 2 * n) (a : Only [eC r c, eC r c + 1] h h') (b : BV1 h' (eC r c) 12 (V' r c)) (u : ∀ x y, (x ≠ r ∨ y ≠ c) → V' x y = V x y) : EV n V' h' := fun x y x0 x1 y0 y1 => by
  by_cases w : x = r ∧ y = c
  · rw [w.1, w.2]
    exact b
  · have w2 : x ≠ r ∨ y ≠ c := by omega
    rw [u x y w2]
    exact (e x y x0 x1 y0 y1).o2 a (eC_ne ⟨x0, by omega⟩ ⟨y0, by omega⟩ ⟨r0.1, by omega⟩ ⟨c0.1, by omega⟩ w2)
theorem nat_mul_b {a b : Int} {k m : Nat} (ha : a.natAbs < 1073741824 ^ k) (hb : b.natAbs < 1073741824 ^ m) : (a * b).natAbs < 1073741824 ^ (k + m) := by
  rw [Int.natAbs_mul, Nat.pow_add]
  exact Nat.mul_lt_mul'' ha hb
theorem nat_sub_b {a b : Int} {k : Nat} (ha : a.natAbs < 1073741824 ^ k) (hb : b.natAbs < 1073741824 ^ k) : (a - b).natAbs < 1073741824 ^ (k + 1) := by
  rw [Nat.pow_succ]
  have p : 0 < 1073741824 ^ k := Nat.pow_pos (by decide)
  omega
theorem bv_sign {V : Int} : (V.sign = 0 ↔ V = 0) := Int.sign_eq_zero_iff_zero
theorem EV.cg {n : Int} {V V' : Int → Int → Int} {h : MH} (e : EV n V h) (u : ∀ x c, V x c = V' x c) : EV n V' h := fun x c x0 x1 c0 c1 => by
  rw [← u]
  exact e x c x0 x1 c0 c1
/-- what the inversion walks over -/
def IS (n : Int) (h : MH) : Prop := ES n h ∧ (180 < h.1 ∧ (h.2 180).1 = 2 ∧ (2 < 16 → (h.2 180).2.1 = 8)) ∧ (181 < h.1 ∧ (h.2 181).1 = 0 ∧ (0 < 16 → (h.2 181).2.1 = 8)) ∧ (ga h 161 11 = 180 ∧ ga h 161 13 = 181) ∧ ∀ j : Int, 0 ≤ j → j < n → 0 ≤ ga h 181 j ∧ ga h 181 j ≤ 7
def iCs : List Nat := 161 :: 180 :: eCs
theorem mem_iCs {c : Nat} : c ∈ iCs ↔ c = 161 ∨ c = 180 ∨ (209 ≤ c ∧ c ≤ 464) ∨ (491 ≤ c ∧ c ≤ 502) := by
  unfold iCs
  rw [List.mem_cons, List.mem_cons, mem_eCs]
theorem eCs_i : ∀ c ∈ eCs, c ∈ iCs := fun c m => List.mem_cons_of_mem _ (List.mem_cons_of_mem _ m)
theorem IS.call {n : Int} {h h' : MH} {cs : List Nat} (g : IS n h) (a : Only cs h h') (g' : ES n h') (nb : ∀ c ∈ cs, 191 ≤ c) : IS n h' := by
  obtain ⟨_, ⟨a1, a2, a3⟩, ⟨b1, b2, b3⟩, ⟨c1, c2⟩, d⟩ := g
  have n1 : 161 ∉ cs := fun m => absurd (nb _ m) (by decide)
  have n2 : 181 ∉ cs := fun m => absurd (nb _ m) (by decide)
  refine ⟨g', ⟨by rw [a.1]; exact a1, (a.2.1 180).1.trans a2, fun l => (a.2.1 180).2.trans (a3 l)⟩, ⟨by rw [a.1]; exact b1, (a.2.1 181).1.trans b2, fun l => (a.2.1 181).2.trans (b3 l)⟩, ⟨by rw [a.ga n1]; exact c1, by rw [a.ga n1]; exact c2⟩, fun j j0 j1 => ?_⟩
  rw [a.ga n2]
  exact d j j0 j1
theorem IS.wr {n : Int} {h : MH} {c : Nat} {i v : Int} (g : IS n h) (i0 : 0 ≤ i) (w : c = 180 ∨ (c = 161 ∧ i = 10)) : IS n (sa h c i v) := by
  obtain ⟨⟨⟨⟨a1, a2, a3, a4, a5⟩, ⟨b1, b2, b3⟩, ⟨c1, c2, c3⟩, d, e, f⟩, gd⟩, ⟨p1, p2, p3⟩, ⟨q1, q2, q3⟩, ⟨r1, r2⟩, s⟩ := g
  have kd : ∀ x, ((sa h c i v).2 x).1 = (h.2 x).1 ∧ ((sa h c i v).2 x).2.1 = (h.2 x).2.1 := fun x => sa_kd h c i v x
  have sz : (sa h c i v).1 = h.1 := rfl
  have ff : ∀ j : Int, 0 ≤ j → j ≠ 10 → ga (sa h c i v) 161 j = ga h 161 j := fun j j0 j1 => by
    rcases w with rfl | ⟨rfl, rfl⟩
    · exact ga_ne _ _ _ _ (by decide) j
    · rw [ga_sa _ _ _ i0 j0, if_neg j1]
  have fo : ∀ x : Nat, x ≠ 161 → x ≠ 180 → ga (sa h c i v) x = ga h x := fun x x1 x2 => funext fun j => by
    rcases w with rfl | ⟨rfl, rfl⟩
    · exact ga_ne _ _ _ _ (by omega) j
    · exact ga_ne _ _ _ _ (by omega) j
  refine ⟨⟨⟨⟨by rw [sz]; exact a1, (kd 161).1.trans a2, (ff 16 (by decide) (by decide)).trans a3, (ff 18 (by decide) (by decide)).trans a4, (ff 12 (by decide) (by decide)).trans a5⟩, ⟨by rw [sz]; exact b1, (kd 191).1.trans b2, fun l => (kd 191).2.trans (b3 l)⟩, ⟨by rw [sz]; exact c1, (kd 193).1.trans c2, fun l => (kd 193).2.trans (c3 l)⟩, fun x x0 x1 => by rw [fo 191 (by decide) (by decide)]; exact d x x0 x1, fun x x0 x1 => by rw [fo 193 (by decide) (by decide)]; exact e x x0 x1, fun o W m => (f o W m).set i0 (fun q => ?_)⟩, fun o W m => ?_⟩, ⟨by rw [sz]; exact p1, (kd 180).1.trans p2, fun l => (kd 180).2.trans (p3 l)⟩, ⟨by rw [sz]; exact q1, (kd 181).1.trans q2, fun l => (kd 181).2.trans (q3 l)⟩, ⟨(ff 11 (by decide) (by decide)).trans r1, (ff 13 (by decide) (by decide)).trans r2⟩, fun j j0 j1 => by rw [fo 181 (by decide) (by decide)]; exact s j j0 j1⟩
  · have := m.b
    omega
  · have := m.b
    unfold DB
    rw [fo o (by omega) (by omega), fo (o + 1) (by omega) (by omega)]
    exact gd o W m
/-- what stands when p pivots have been looked at -/
def IV (n : Int) (B : Nat → Nat → Int) (p : Int) (h : MH) : Prop := ∃ (k : Nat) (V : Nat → Nat → Int) (pf : Nat → Nat) (qf : Nat → Bool) (D : Int), k ≤ p.toNat ∧ GQ n.toNat (2 * n).toNat (zR B) (zR V) k pf qf ((D : Int) : Rat) ∧ (∀ r, qf r = true → r < p.toNat) ∧ EV n (fun x c => V x.toNat c.toNat) h ∧ BV1 h 491 160 D
