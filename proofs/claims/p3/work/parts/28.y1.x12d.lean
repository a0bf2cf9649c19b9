/-! X12 by hand: settings, what a move is, what it costs, as functions of the heap -/
def lnF (d : Int) : Int := if d % 2 = 0 then (if d % 4 = 0 then 10 else 14) else 22
theorem lnF_b (d : Int) : 10 ≤ lnF d ∧ lnF d ≤ 22 := by
  unfold lnF
  repeat' split
  all_goals omega
def Tv12 (v : Int) (P : Prop) : Prop := (v = 1 ∧ P) ∨ (v = 0 ∧ ¬ P)
theorem Tv12.t {v : Int} {P : Prop} (t : Tv12 v P) (h : v ≠ 0) : P := t.elim (fun q => q.2) fun q => absurd q.1 h
theorem Tv12.f {v : Int} {P : Prop} (t : Tv12 v P) (h : v = 0) : ¬ P := t.elim (fun q => absurd (q.1.symm.trans h) (by decide)) fun q => q.2
def brF (h : MH) (c : Int) : Prop := ga h 2455 c ≠ 0 ∧ 0 < ga h 2453 c
def cz12 (h : MH) (c : Int) : Prop := ga h 2455 c ≠ 0 ∧ ga h 2453 c = 0
def hdF (h : MH) (d : Int) : Prop := d < 16 ∧ (ga h 2449 12 = 2 ∨ d % 2 = 0)
def byF (l d : Int) : Int := if d < l then l - d else d - l
def bzF (l d : Int) : Int := if 8 < byF l d then 16 - byF l d else byF l d
def tuF (h : MH) (l d b : Int) : Prop := l = 16 ∨ bzF l d ≤ (if b = 0 then ga h 2449 14 else 0)
def upF (h : MH) (a b : Int) : Int := if ga h 2451 a - ga h 2451 b < 0 then -(ga h 2451 a - ga h 2451 b) else ga h 2451 a - ga h 2451 b
def mayF (h : MH) (a l b d : Int) : Prop := hdF h d ∧ ¬ cz12 h a ∧ ¬ cz12 h b ∧ upF h a b ≤ ga h 2449 13 ∧ ((brF h a ∨ brF h b) → tuF h l d 1) ∧ (¬ (brF h a ∨ brF h b) → tuF h l d 0)
def rnF (h : MH) (c r : Int) : Prop := (brF h c → 1 ≤ r ∧ r ≤ ga h 2453 c) ∧ (¬ brF h c → r = 0)
def shP (h : MH) (c : Int) : Prop := ga h 2464 c ≠ 0 ∧ c ≠ ga h 2449 21
noncomputable def shF (h : MH) (c : Int) : Int := if ga h 2464 c = 0 then 0 else if c = ga h 2449 21 then 0 else 1
theorem shF_b (h : MH) (c : Int) : 0 ≤ shF h c ∧ shF h c ≤ 1 := by
  unfold shF
  repeat' split
  all_goals omega
noncomputable def rbF (h : MH) (to r : Int) : Int := if ga h 2455 to = 0 then 0 else if 0 < ga h 2453 to then r + 1 else 0
theorem rbF_t {h : MH} {to r : Int} (b : brF h to) : rbF h to r = r + 1 := by
  unfold rbF
  rw [if_neg b.1, if_pos b.2]
theorem rbF_f {h : MH} {to r : Int} (b : ¬ brF h to) : rbF h to r = 0 := by
  unfold rbF
  split
  · rfl
  · next q =>
    split
    · next z => exact absurd ⟨q, z⟩ b
    · rfl
def on12 (h : MH) (c l r d : Int) : Prop := st12 c d ≠ -1 ∧ mayF h c l (st12 c d) d ∧ rnF h (st12 c d) (rbF h (st12 c d) r)
noncomputable def nxF (h : MH) (c r s d : Int) : Int := 612 * st12 c d + 36 * d + 9 * rbF h (st12 c d) r + (s - shF h (st12 c d))
def msF (h : MH) (c : Int) : Nat → Int
  | 0 => 0
  | n + 1 => msF h c n + ga h 2457 (8 * c + n)
noncomputable def vaF (h : MH) (c a : Int) : Int := if a = 3 then ga h 2456 (4 * c + a) + 10 * msF h c 8 else ga h 2456 (4 * c + a)
noncomputable def psF (h : MH) (c : Int) : Nat → Int
  | 0 => 60 * ga h 2450 c
  | n + 1 => psF h c n + (60 * ga h 2458 (n : Int) * vaF h c (n : Int)) / ga h 2459 (n : Int)
noncomputable def prF (h : MH) (c d : Int) : Int := if ga h 2455 c ≠ 0 ∧ 0 < ga h 2453 c then 60 * ga h 2454 c * lnF d else psF h c 4 * lnF d
def dtF (l d : Int) : Int := if l = 16 ∨ l = d then 0 else 1
theorem dtF_b (l d : Int) : 0 ≤ dtF l d ∧ dtF l d ≤ 1 := by
  unfold dtF
  split <;> omega
/-- settings within their bounds -/
def Set12 (h : MH) : Prop := (ga h 2449 0 = 12 ∧ ga h 2449 1 = 12) ∧ (1 ≤ ga h 2449 12 ∧ ga h 2449 12 ≤ 2) ∧ (0 ≤ ga h 2449 13 ∧ ga h 2449 13 ≤ 9999) ∧ (0 ≤ ga h 2449 14 ∧ ga h 2449 14 ≤ 8) ∧ (0 ≤ ga h 2449 20 ∧ ga h 2449 20 ≤ 143) ∧ (0 ≤ ga h 2449 21 ∧ ga h 2449 21 ≤ 143) ∧ (-100 ≤ ga h 2449 22 ∧ ga h 2449 22 ≤ 8)
  ∧ (∀ j : Int, 0 ≤ j → j ≤ 143 → (0 ≤ ga h 2450 j ∧ ga h 2450 j ≤ 999) ∧ (0 ≤ ga h 2451 j ∧ ga h 2451 j ≤ 9999) ∧ (0 ≤ ga h 2453 j ∧ ga h 2453 j ≤ 3) ∧ 0 ≤ ga h 2454 j ∧ ga h 2454 j ≤ 9999)
  ∧ (∀ j : Int, 0 ≤ j → j ≤ 575 → 0 ≤ ga h 2456 j ∧ ga h 2456 j ≤ 999) ∧ (∀ j : Int, 0 ≤ j → j ≤ 1151 → 0 ≤ ga h 2457 j ∧ ga h 2457 j ≤ 3) ∧ ∀ j : Int, 0 ≤ j → j ≤ 3 → (0 ≤ ga h 2458 j ∧ ga h 2458 j ≤ 20) ∧ 1 ≤ ga h 2459 j ∧ ga h 2459 j ≤ 6
/-- the settings are the same -/
def SM12 (σ h : MH) : Prop := (∀ c ∈ ([2450, 2451, 2453, 2454, 2455, 2456, 2457, 2458, 2459, 2464] : List Nat), ga h c = ga σ c) ∧ ∀ j ∈ ([0, 1, 12, 13, 14, 20, 21, 22] : List Int), ga h 2449 j = ga σ 2449 j
theorem SM12.refl (h : MH) : SM12 h h := ⟨fun _ _ => rfl, fun _ _ => rfl⟩
theorem SM12.only {σ h h' : MH} {cs : List Nat} (m : SM12 σ h) (a : Only cs h h') (n : ∀ c ∈ ([2449, 2450, 2451, 2453, 2454, 2455, 2456, 2457, 2458, 2459, 2464] : List Nat), c ∉ cs) : SM12 σ h' :=
  ⟨fun c hc => (onlyF a (n c (List.mem_cons_of_mem _ hc))).trans (m.1 c hc), fun j hj => (a.ga (n 2449 List.mem_cons_self) j).trans (m.2 j hj)⟩
section
variable {σ h : MH}
theorem SM12.f {j : Int} (m : SM12 σ h) (hj : j ∈ ([0, 1, 12, 13, 14, 20, 21, 22] : List Int) := by decide) : ga h 2449 j = ga σ 2449 j := m.2 j hj
theorem SM12.a {c : Nat} (m : SM12 σ h) (hc : c ∈ ([2450, 2451, 2453, 2454, 2455, 2456, 2457, 2458, 2459, 2464] : List Nat) := by decide) : ga h c = ga σ c := m.1 c hc
theorem SM12.br (m : SM12 σ h) : brF h = brF σ := by
  funext c
  unfold brF
  rw [m.a (c := 2455), m.a (c := 2453)]
theorem SM12.cl (m : SM12 σ h) : cz12 h = cz12 σ := by
  funext c
  unfold cz12
  rw [m.a (c := 2455), m.a (c := 2453)]
theorem SM12.hd (m : SM12 σ h) : hdF h = hdF σ := by
  funext d
  unfold hdF
  rw [m.f (j := 12)]
theorem SM12.may (m : SM12 σ h) : mayF h = mayF σ := by
  funext a l b d
  unfold mayF upF tuF
  rw [m.hd, m.cl, m.br, m.a (c := 2451), m.f (j := 13), m.f (j := 14)]
theorem SM12.rn (m : SM12 σ h) : rnF h = rnF σ := by
  funext c r
  unfold rnF
  rw [m.br, m.a (c := 2453)]
theorem SM12.sh (m : SM12 σ h) : shF h = shF σ := by
  funext c
  unfold shF
  rw [m.a (c := 2464), m.f (j := 21)]
theorem SM12.rb (m : SM12 σ h) : rbF h = rbF σ := by
  funext a r
  unfold rbF
  rw [m.a (c := 2455), m.a (c := 2453)]
theorem SM12.on (m : SM12 σ h) : on12 h = on12 σ := by
  funext c l r d
  unfold on12
  rw [m.may, m.rn, m.rb]
theorem SM12.nx (m : SM12 σ h) : nxF h = nxF σ := by
  funext c r s d
  unfold nxF
  rw [m.rb, m.sh]
theorem SM12.ms (m : SM12 σ h) : ∀ (c : Int) (n : Nat), msF h c n = msF σ c n
  | c, 0 => rfl
  | c, n + 1 => by
    show msF h c n + ga h 2457 (8 * c + n) = msF σ c n + ga σ 2457 (8 * c + n)
    rw [SM12.ms m c n, m.a (c := 2457)]
theorem SM12.va (m : SM12 σ h) : vaF h = vaF σ := by
  funext c a
  unfold vaF
  rw [m.ms, m.a (c := 2456)]
theorem SM12.ps (m : SM12 σ h) : ∀ (c : Int) (n : Nat), psF h c n = psF σ c n
  | c, 0 => by
    show 60 * ga h 2450 c = 60 * ga σ 2450 c
    rw [m.a (c := 2450)]
  | c, n + 1 => by
    show psF h c n + (60 * ga h 2458 (n : Int) * vaF h c (n : Int)) / ga h 2459 (n : Int) = psF σ c n + (60 * ga σ 2458 (n : Int) * vaF σ c (n : Int)) / ga σ 2459 (n : Int)
    rw [SM12.ps m c n, m.va, m.a (c := 2458), m.a (c := 2459)]
theorem SM12.pr (m : SM12 σ h) : prF h = prF σ := by
  funext c d
  unfold prF
  rw [m.a (c := 2455), m.a (c := 2453), m.a (c := 2454), m.ps]
theorem SM12.s (m : SM12 σ h) (s : Set12 σ) : Set12 h := by
  unfold Set12 at s ⊢
  rw [m.f (j := 0), m.f (j := 1), m.f (j := 12), m.f (j := 13), m.f (j := 14), m.f (j := 20), m.f (j := 21), m.f (j := 22), m.a (c := 2450), m.a (c := 2451), m.a (c := 2453), m.a (c := 2454), m.a (c := 2456), m.a (c := 2457), m.a (c := 2458), m.a (c := 2459)]
  exact s
end
theorem msF_b {h : MH} (s : Set12 h) {c : Int} (c0 : 0 ≤ c) (c1 : c ≤ 143) : ∀ {n : Nat}, n ≤ 8 → 0 ≤ msF h c n ∧ msF h c n ≤ 3 * (n : Int)
  | 0, _ => ⟨Int.le_refl _, Int.le_refl _⟩
  | n + 1, hn => by
    have h1 := msF_b s c0 c1 (n := n) (by omega)
    have h2 := s.2.2.2.2.2.2.2.2.2.1 (8 * c + n) (by omega) (by omega)
    show 0 ≤ msF h c n + ga h 2457 (8 * c + n) ∧ msF h c n + ga h 2457 (8 * c + n) ≤ 3 * (((n + 1 : Nat)) : Int)
    omega
theorem vaF_b {h : MH} (s : Set12 h) {c a : Int} (c0 : 0 ≤ c) (c1 : c ≤ 143) (a0 : 0 ≤ a) (a1 : a ≤ 3) : 0 ≤ vaF h c a ∧ vaF h c a ≤ 1239 := by
  have h1 := msF_b s c0 c1 (n := 8) (Nat.le_refl _)
  have h2 := s.2.2.2.2.2.2.2.2.1 (4 * c + a) (by omega) (by omega)
  unfold vaF
  split <;> omega
theorem mul_bb {x y a b : Int} (hx : 0 ≤ x ∧ x ≤ a) (hy : 0 ≤ y ∧ y ≤ b) : 0 ≤ x * y ∧ x * y ≤ a * b := ⟨Int.mul_nonneg hx.1 hy.1, Int.mul_le_mul hx.2 hy.2 hy.1 (Int.le_trans hx.1 hx.2)⟩
theorem div_bb {x y b : Int} (hx : 0 ≤ x ∧ x ≤ b) (hy : 1 ≤ y) : 0 ≤ x / y ∧ x / y ≤ b := ⟨Int.ediv_nonneg hx.1 (by omega), Int.le_trans (Int.ediv_le_self _ hx.1) hx.2⟩
theorem psF_t {h : MH} (s : Set12 h) {c a : Int} (c0 : 0 ≤ c) (c1 : c ≤ 143) (a0 : 0 ≤ a) (a1 : a ≤ 3) : (0 ≤ 60 * ga h 2458 a ∧ 60 * ga h 2458 a ≤ 1200) ∧ (0 ≤ 60 * ga h 2458 a * vaF h c a ∧ 60 * ga h 2458 a * vaF h c a ≤ 1486800) ∧ (1 ≤ ga h 2459 a ∧ ga h 2459 a ≤ 6) ∧ 0 ≤ (60 * ga h 2458 a * vaF h c a) / ga h 2459 a ∧ (60 * ga h 2458 a * vaF h c a) / ga h 2459 a ≤ 1486800 := by
  have h1 := s.2.2.2.2.2.2.2.2.2.2 a a0 a1
  have h2 := vaF_b s c0 c1 a0 a1
  have h3 : 0 ≤ 60 * ga h 2458 a ∧ 60 * ga h 2458 a ≤ 1200 := by omega
  have h4 := mul_bb h3 h2
  exact ⟨h3, h4, h1.2, div_bb h4 h1.2.1⟩
theorem psF_b {h : MH} (s : Set12 h) {c : Int} (c0 : 0 ≤ c) (c1 : c ≤ 143) : ∀ {n : Nat}, n ≤ 4 → 0 ≤ psF h c n ∧ psF h c n ≤ 59940 + 1486800 * (n : Int)
  | 0, _ => by
    have := (s.2.2.2.2.2.2.2.1 c c0 c1).1
    show 0 ≤ 60 * ga h 2450 c ∧ 60 * ga h 2450 c ≤ _
    omega
  | n + 1, hn => by
    have h1 := psF_b s c0 c1 (n := n) (by omega)
    have h2 := (psF_t s c0 c1 (a := (n : Int)) (by omega) (by omega)).2.2.2
    show 0 ≤ psF h c n + (60 * ga h 2458 (n : Int) * vaF h c (n : Int)) / ga h 2459 (n : Int) ∧ psF h c n + (60 * ga h 2458 (n : Int) * vaF h c (n : Int)) / ga h 2459 (n : Int) ≤ _
    omega
theorem prF_b {h : MH} (s : Set12 h) {c d : Int} (c0 : 0 ≤ c) (c1 : c ≤ 143) : 0 ≤ prF h c d ∧ prF h c d ≤ 132157080 := by
  have l := lnF_b d
  have l : 0 ≤ lnF d ∧ lnF d ≤ 22 := by omega
  unfold prF
  split
  · have := (s.2.2.2.2.2.2.2.1 c c0 c1).2.2.2
    have := mul_bb (x := 60 * ga h 2454 c) (a := 599940) (by omega) l
    omega
  · have := psF_b s c0 c1 (n := 4) (Nat.le_refl _)
    have := mul_bb (x := psF h c 4) (a := 6007140) (by omega) l
    omega
/-- a move of labels: from, to, its price, whether it turns -/
def ed12 (h : MH) (i n p t : Int) : Prop := ∃ c l r s d : Int, (i = 612 * c + 36 * l + 9 * r + s ∧ (0 ≤ c ∧ c ≤ 143) ∧ (0 ≤ l ∧ l ≤ 16) ∧ (0 ≤ r ∧ r ≤ 3) ∧ 0 ≤ s ∧ s ≤ 8) ∧ (0 ≤ d ∧ d ≤ 15) ∧ on12 h c l r d ∧ 0 ≤ s - shF h (st12 c d) ∧ n = nxF h c r s d ∧ p = prF h (st12 c d) d ∧ t = dtF l d
theorem on12_b {h : MH} (s : Set12 h) {c l r d : Int} (o : on12 h c l r d) : (0 ≤ st12 c d ∧ st12 c d ≤ 143) ∧ 0 ≤ rbF h (st12 c d) r ∧ rbF h (st12 c d) r ≤ 3 := by
  have h1 := (st12_b c d).resolve_left o.1
  refine ⟨h1, ?_⟩
  have h2 := (s.2.2.2.2.2.2.2.1 _ h1.1 h1.2).2.2.1
  by_cases b : brF h (st12 c d)
  · have := o.2.2.1 b
    omega
  · have := o.2.2.2 b
    omega
theorem nxF_b {h : MH} (s : Set12 h) {c l r k d : Int} (o : on12 h c l r d) (d0 : 0 ≤ d ∧ d ≤ 15) (k0 : 0 ≤ k ∧ k ≤ 8) (ks : 0 ≤ k - shF h (st12 c d)) : (0 ≤ nxF h c r k d ∧ nxF h c r k d < 88128) ∧ nxF h c r k d / 612 = st12 c d ∧ nxF h c r k d / 36 % 17 = d ∧ nxF h c r k d / 9 % 4 = rbF h (st12 c d) r ∧ nxF h c r k d % 9 = k - shF h (st12 c d) := by
  have h1 := on12_b s o
  have h2 := shF_b h (st12 c d)
  unfold nxF
  omega
theorem ed12_b {h : MH} (s : Set12 h) : RB12 (ed12 h) := by
  rintro i n p t ⟨c, l, r, k, d, _, _, o, _, _, e1, e2⟩
  have h1 := on12_b s o
  rw [e1, e2]
  exact ⟨prF_b s h1.1.1 h1.1.2, dtF_b l d⟩
abbrev OkH (σ h : MH) : Prop := Ok12 (ed12 σ) (ga h 2463) (ga h 2460) (ga h 2461) (ga h 2462)
noncomputable def muH (h : MH) : Int := mu12 (ga h 2463) (ga h 2460) (ga h 2461) (ga h 2462) 88128
/-- labels that are looked at -/
def Dm12 (h : MH) (i : Int) : Prop := ∃ c l r s : Int, (i = 612 * c + 36 * l + 9 * r + s ∧ (0 ≤ c ∧ c ≤ 143) ∧ (0 ≤ l ∧ l ≤ 16) ∧ (0 ≤ r ∧ r ≤ 3) ∧ 0 ≤ s ∧ s ≤ 8) ∧ s ≤ ga h 2449 22 ∧ (l = 16 → c = ga h 2449 20) ∧ (l ≠ 16 → hdF h l) ∧ rnF h c r
abbrev FxH (σ h : MH) : Prop := Fx12 (Dm12 σ) (ed12 σ) (ga h 2463) (ga h 2460) (ga h 2461) (ga h 2462)
/-- nothing is better from one label on by one heading -/
def Fd12 (σ h : MH) (c l r s d : Int) : Prop := on12 σ c l r d → 0 ≤ s - shF σ (st12 c d) → ga h 2463 (nxF σ c r s d) ≠ 0 → ga h 2463 (612 * c + 36 * l + 9 * r + s) ≠ 0 ∧ le3 (ga h 2460 (612 * c + 36 * l + 9 * r + s)) (ga h 2461 (612 * c + 36 * l + 9 * r + s)) (ga h 2462 (612 * c + 36 * l + 9 * r + s)) (ga h 2460 (nxF σ c r s d) + prF σ (st12 c d) d) (ga h 2461 (nxF σ c r s d) + dtF l d) (ga h 2462 (nxF σ c r s d) + 1)
def Fa12 (σ h : MH) (c l r s : Int) : Prop := ∀ d : Int, 0 ≤ d → d ≤ 15 → Fd12 σ h c l r s d
theorem FxH.of {σ h : MH} (a : ∀ c l r s : Int, (0 ≤ c ∧ c ≤ 143) → (0 ≤ l ∧ l ≤ 16) → (0 ≤ r ∧ r ≤ 3) → (0 ≤ s ∧ s ≤ 8) → s ≤ ga σ 2449 22 → (l = 16 → c = ga σ 2449 20) → (l ≠ 16 → hdF σ l) → rnF σ c r → Fa12 σ h c l r s) : FxH σ h := by
  rintro i n p t ⟨c, l, r, s, ⟨e, c0, l0, r0, s0⟩, s1, l1, l2, rr⟩ ⟨c', l', r', s', d, ⟨e', c0', l0', r0', s0'⟩, d0, o, k, rfl, rfl, rfl⟩ kn
  have e1 : c' = c := by omega
  have e2 : l' = l := by omega
  have e3 : r' = r := by omega
  have e4 : s' = s := by omega
  subst e1 e2 e3 e4
  rw [e]
  exact a c' l' r' s' c0 l0 r0 s0 s1 l1 l2 rr d d0.1 d0.2 o k kn
/-- what lies behind a move is looked at too -/
theorem Dm12.next {h : MH} (s : Set12 h) {i n p t : Int} (d : Dm12 h i) (e : ed12 h i n p t) : Dm12 h n ∧ (0 ≤ n ∧ n < 88128) ∧ n % 9 ≤ i % 9 ∧ n / 36 % 17 < 16 ∧ (¬ brF h (n / 612) → n / 9 % 4 = 0) ∧ (brF h (n / 612) → n / 9 % 4 = i / 9 % 4 + 1 ∧ 1 ≤ n / 9 % 4) := by
  obtain ⟨c, l, r, k, ⟨q, c0, l0, r0, s0⟩, s1, l1, l2, rr⟩ := d
  obtain ⟨c', l', r', s', d, ⟨e', c0', l0', r0', s0'⟩, d0, o, ks, rfl, rfl, rfl⟩ := e
  have e1 : c' = c := by omega
  have e2 : l' = l := by omega
  have e3 : r' = r := by omega
  have e4 : s' = k := by omega
  subst e1 e2 e3 e4
  have h1 := on12_b s o
  obtain ⟨n0, n1, n2, n3, n4⟩ := nxF_b s o d0 s0 ks
  have h2 := shF_b h (st12 c' d)
  refine ⟨⟨st12 c' d, d, rbF h (st12 c' d) r', s' - shF h (st12 c' d), ⟨rfl, h1.1, by omega, h1.2, by omega⟩, by omega, fun z => by omega, fun _ => o.2.1.1, o.2.2⟩, n0, by omega, by omega, fun b => ?_, fun b => ?_⟩
  · rw [n1] at b
    rw [n3, rbF_f b]
  · rw [n1] at b
    have := rbF_t (r := r') b
    have := o.2.2.1 b
    omega
theorem ed12.down {h : MH} (s : Set12 h) {i n p t x : Int} (e : ed12 h i n p t) (x0 : 0 ≤ x) (x1 : x ≤ n % 9) : ed12 h (i - x) (n - x) p t := by
  obtain ⟨c, l, r, k, d, ⟨e', c0, l0, r0, s0⟩, d0, o, ks, rfl, e1, e2⟩ := e
  obtain ⟨n0, n1, n2, n3, n4⟩ := nxF_b s o d0 s0 ks
  have h2 := shF_b h (st12 c d)
  refine ⟨c, l, r, k - x, d, ⟨by omega, c0, l0, r0, by omega⟩, d0, o, by omega, ?_, e1, e2⟩
  unfold nxF
  omega
theorem Dm12.down {h : MH} {i x : Int} (d : Dm12 h i) (x0 : 0 ≤ x) (x1 : x ≤ i % 9) : Dm12 h (i - x) := by
  obtain ⟨c, l, r, k, ⟨q, c0, l0, r0, s0⟩, s1, l1, l2, rr⟩ := d
  exact ⟨c, l, r, k - x, ⟨by omega, c0, l0, r0, by omega⟩, by omega, l1, l2, rr⟩
theorem tdiv12 {x y : Int} (hx : 0 ≤ x) (hy : 0 < y) : x.tdiv y = x / y ∧ 0 ≤ x / y ∧ x / y ≤ x := ⟨Int.tdiv_eq_ediv_of_nonneg hx, Int.ediv_nonneg hx (Int.le_of_lt hy), Int.ediv_le_self _ hx⟩
def BD12 (h : MH) : Prop := ∀ j : Int, 0 ≤ j → j < 88128 → (0 ≤ ga h 2460 j ∧ ga h 2460 j ≤ 17592186044416) ∧ (0 ≤ ga h 2461 j ∧ ga h 2461 j ≤ 88128) ∧ 0 ≤ ga h 2462 j ∧ ga h 2462 j ≤ 88128
theorem BD12.set {h h' : MH} {i x t m : Int} (b : BD12 h) (e0 : ∀ j : Int, 0 ≤ j → ga h' 2460 j = if j = i then x else ga h 2460 j) (e1 : ∀ j : Int, 0 ≤ j → ga h' 2461 j = if j = i then t else ga h 2461 j) (e2 : ∀ j : Int, 0 ≤ j → ga h' 2462 j = if j = i then m else ga h 2462 j) (b0 : 0 ≤ x ∧ x ≤ 17592186044416) (b1 : 0 ≤ t ∧ t ≤ 88128) (b2 : 0 ≤ m ∧ m ≤ 88128) : BD12 h' := fun j j0 j1 => by
  have := b j j0 j1
  rw [e0 j j0, e1 j j0, e2 j j0]
  split
  · exact ⟨b0, b1, b2⟩
  · exact this
theorem BD12.sa {h : MH} {c : Nat} {i v : Int} (b : BD12 h) (n : c ∉ ([2460, 2461, 2462] : List Nat)) : BD12 (sa h c i v) := fun j j0 j1 => by
  have := b j j0 j1
  rw [ga_ne _ _ _ _ (fun e => n (by rw [← e]; decide)), ga_ne _ _ _ _ (fun e => n (by rw [← e]; decide)), ga_ne _ _ _ _ (fun e => n (by rw [← e]; decide))]
  exact this
/-- what is looked at in the order of looking -/
def LK12 (σ : MH) (c l r s : Int) : Prop := (0 ≤ c ∧ c ≤ 143) ∧ (0 ≤ l ∧ l ≤ 16) ∧ (0 ≤ r ∧ r ≤ 3) ∧ (0 ≤ s ∧ s ≤ 8) ∧ s ≤ ga σ 2449 22 ∧ (l = 16 → c = ga σ 2449 20) ∧ (l ≠ 16 → hdF σ l) ∧ rnF σ c r
def Dn12 (σ h : MH) (c l r s : Int) : Prop := ∀ c' l' r' s' : Int, LK12 σ c' l' r' s' → (c' < c ∨ c' = c ∧ (l' < l ∨ l' = l ∧ (r' < r ∨ r' = r ∧ s' < s))) → Fa12 σ h c' l' r' s'
theorem Dn12.s {σ h : MH} {c l r s : Int} (d : Dn12 σ h c l r s) (f : Fa12 σ h c l r s) : Dn12 σ h c l r (s + 1) := fun c' l' r' s' q w => by
  by_cases z : c' = c ∧ l' = l ∧ r' = r ∧ s' = s
  · obtain ⟨rfl, rfl, rfl, rfl⟩ := z
    exact f
  · exact d c' l' r' s' q (by omega)
theorem Dn12.r {σ h : MH} {c l r s : Int} (d : Dn12 σ h c l r s) (f : ∀ s', LK12 σ c l r s' → s' < s) : Dn12 σ h c l (r + 1) 0 := fun c' l' r' s' q w => by
  refine d c' l' r' s' q ?_
  by_cases z : c' = c ∧ l' = l ∧ r' = r
  · obtain ⟨rfl, rfl, rfl⟩ := z
    have := f s' q
    omega
  · have := q.2.2.2.1
    omega
theorem Dn12.l {σ h : MH} {c l r : Int} (d : Dn12 σ h c l r 0) (f : ∀ r' s', LK12 σ c l r' s' → r' < r) : Dn12 σ h c (l + 1) 0 0 := fun c' l' r' s' q w => by
  refine d c' l' r' s' q ?_
  have q3 := q.2.2.1
  have q4 := q.2.2.2.1
  by_cases z : c' = c ∧ l' = l
  · obtain ⟨rfl, rfl⟩ := z
    have := f r' s' q
    omega
  · omega
theorem Dn12.c {σ h : MH} {c l : Int} (d : Dn12 σ h c l 0 0) (f : ∀ l' r' s', LK12 σ c l' r' s' → l' < l) : Dn12 σ h (c + 1) 0 0 0 := fun c' l' r' s' q w => by
  refine d c' l' r' s' q ?_
  have q2 := q.2.1
  have q3 := q.2.2.1
  have q4 := q.2.2.2.1
  by_cases z : c' = c
  · subst z
    have := f l' r' s' q
    omega
  · omega
theorem Dn12.zero (σ h : MH) : Dn12 σ h 0 0 0 0 := fun c' l' r' s' q w => by
  have q1 := q.1
  have q2 := q.2.1
  have q3 := q.2.2.1
  have q4 := q.2.2.2.1
  omega
theorem Dn12.fx {σ h : MH} {c : Int} (d : Dn12 σ h c 0 0 0) (hc : 144 ≤ c) : FxH σ h := FxH.of fun c' l' r' s' a1 a2 a3 a4 a5 a6 a7 a8 => d c' l' r' s' ⟨a1, a2, a3, a4, a5, a6, a7, a8⟩ (Or.inl (by omega))
/-- how far a round of looking has come -/
def PG12 (m : Int) (a b : MH) (D : Prop) : Prop := (m = 0 ∧ a = b ∧ D) ∨ (m = 1 ∧ muH a < muH b)
theorem PG12.imp {m : Int} {a b : MH} {D D' : Prop} (p : PG12 m a b D) (f : D → D') : PG12 m a b D' := p.elim (fun q => Or.inl ⟨q.1, q.2.1, f q.2.2⟩) Or.inr
theorem PG12.up {m : Int} {a b x : MH} {D D' : Prop} (p : PG12 m a b D) (h : muH x < muH a) : PG12 1 x b D' := by
  refine Or.inr ⟨rfl, ?_⟩
  rcases p with ⟨_, rfl, _⟩ | ⟨_, q⟩
  · exact h
  · omega
/-- a move that fits from a label on -/
def Fit12 (h : MH) (a d : Int) : Prop := on12 h (a / 612) (a / 36 % 17) (a / 9 % 4) d ∧ 0 ≤ a % 9 - shF h (st12 (a / 612) d) ∧ ga h 2463 (nxF h (a / 612) (a / 9 % 4) (a % 9) d) ≠ 0 ∧ ga h 2460 a = ga h 2460 (nxF h (a / 612) (a / 9 % 4) (a % 9) d) + prF h (st12 (a / 612) d) d ∧ ga h 2461 a = ga h 2461 (nxF h (a / 612) (a / 9 % 4) (a % 9) d) + dtF (a / 36 % 17) d ∧ ga h 2462 a = ga h 2462 (nxF h (a / 612) (a / 9 % 4) (a % 9) d) + 1
abbrev EdH (h : MH) : Int → Int → Prop := Ed12 (ed12 h) (ga h 2463) (ga h 2460) (ga h 2461) (ga h 2462)
theorem Fit12.ed {h : MH} {a d : Int} (f : Fit12 h a d) (a0 : 0 ≤ a ∧ a < 88128) (d0 : 0 ≤ d ∧ d ≤ 15) : ed12 h a (nxF h (a / 612) (a / 9 % 4) (a % 9) d) (prF h (st12 (a / 612) d) d) (dtF (a / 36 % 17) d) ∧ EdH h a (nxF h (a / 612) (a / 9 % 4) (a % 9) d) := by
  obtain ⟨f1, f2, f3, f4, f5, f6⟩ := f
  have e : ed12 h a (nxF h (a / 612) (a / 9 % 4) (a % 9) d) (prF h (st12 (a / 612) d) d) (dtF (a / 36 % 17) d) := ⟨a / 612, a / 36 % 17, a / 9 % 4, a % 9, d, ⟨by omega, by omega, by omega, by omega, by omega, by omega⟩, d0, f1, f2, rfl, rfl, rfl⟩
  exact ⟨e, _, _, e, f3, f4, f5, f6⟩
theorem Fit12.of {h : MH} {a n : Int} (e : EdH h a n) : ∃ d : Int, (0 ≤ d ∧ d ≤ 15) ∧ Fit12 h a d := by
  obtain ⟨p, t, ⟨c, l, r, s, d, ⟨e', c0, l0, r0, s0⟩, d0, o, k, rfl, rfl, rfl⟩, f1, f2, f3, f4⟩ := e
  have e1 : a / 612 = c := by omega
  have e2 : a / 36 % 17 = l := by omega
  have e3 : a / 9 % 4 = r := by omega
  have e4 : a % 9 = s := by omega
  refine ⟨d, d0, ?_⟩
  unfold Fit12
  rw [e1, e2, e3, e4]
  exact ⟨o, k, f1, f2, f3, f4⟩
/-- a best way isn't long -/
theorem far12 {h : MH} (s12 : Set12 h) (fx : FxH h h) {v : Nat → Int} {k : Nat} (h0 : Dm12 h (v 0)) (b0 : 0 ≤ v 0 ∧ v 0 < 88128) (z0 : v 0 / 9 % 4 = 0) (he : ∀ j : Nat, j < k → EdH h (v j) (v (j + 1)))
    (ms : ∀ d : Int, 0 < d → d ≤ v 0 % 9 → ga h 2463 (v 0 - d) ≠ 0 → le3 (ga h 2460 (v 0)) (ga h 2461 (v 0)) (ga h 2462 (v 0)) (ga h 2460 (v 0 - d)) (ga h 2461 (v 0 - d)) (ga h 2462 (v 0 - d))) : (k : Int) ≤ 4609 := by
  have all : ∀ j : Nat, j ≤ k → Dm12 h (v j) ∧ (0 ≤ v j ∧ v j < 88128) := by
    intro j
    induction j with
    | zero => intro _; exact ⟨h0, b0⟩
    | succ j ih =>
      intro hj
      obtain ⟨p, t, e, _⟩ := he j (by omega)
      have := (ih (by omega)).1.next s12 e
      exact ⟨this.1, this.2.1⟩
  have nx : ∀ j : Nat, j < k → v (j + 1) % 9 ≤ v j % 9 ∧ v (j + 1) / 36 % 17 < 16 ∧ (¬ brF h (v (j + 1) / 612) → v (j + 1) / 9 % 4 = 0) ∧ (brF h (v (j + 1) / 612) → v (j + 1) / 9 % 4 = v j / 9 % 4 + 1 ∧ 1 ≤ v (j + 1) / 9 % 4) := by
    intro j hj
    obtain ⟨p, t, e, _⟩ := he j hj
    exact ((all j (by omega)).1.next s12 e).2.2
  have inj := path12 (ed12_b s12) fx he (fun j d hj d0 d1 => (all j hj).1.down d0 d1) (fun j d hj d0 d1 p t e => e.down s12 d0 d1) (fun j hj => (nx j hj).1) ms
  obtain ⟨F, hF⟩ : ∃ F : Int → Bool, ∀ c, F c = true ↔ ¬ brF h c := by
    refine ⟨fun c => !(decide (ga h 2455 c ≠ 0) && decide (0 < ga h 2453 c)), fun c => ?_⟩
    unfold brF
    show (!(decide (ga h 2455 c ≠ 0) && decide (0 < ga h 2453 c))) = true ↔ _
    rw [Bool.not_eq_true', Bool.and_eq_false_iff, decide_eq_false_iff_not, decide_eq_false_iff_not]
    omega
  have hG : ∀ c, F c = false → brF h c := by
    intro c e
    by_cases b : brF h c
    · exact b
    · rw [(hF c).mpr b] at e
      cases e
  refine long12 (F := F) inj (fun j j1 jk => ?_) (fun j j1 jk a b => ?_) (fun k1 a => ?_)
  · obtain ⟨i, rfl⟩ : ∃ i : Nat, j = i + 1 := ⟨j - 1, by omega⟩
    have a := nx i (by omega)
    have b := (all (i + 1) jk).2
    exact ⟨b.1, by omega, a.2.1, fun q => a.2.2.1 ((hF _).mp q), fun q => (a.2.2.2 (hG _ q)).2⟩
  · have := nx j jk
    exact (this.2.2.2 (hG _ a)).1
  · have := nx 0 (by omega)
    have := (this.2.2.2 (hG _ a)).1
    rw [Nat.zero_add] at this
    omega
