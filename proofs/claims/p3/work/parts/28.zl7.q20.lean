/-! X20: what a row's telling may change -/
abbrev qCs : List Nat := 2448 :: 2626 :: (C14 ++ C19)
def QR (h : MH) (M : Int) (x : MH) : Prop := StrZ zT x ∧ Only qCs h x ∧ (∀ j : Int, 0 ≤ j → j ≠ 0 → j ≠ 18 → ga x 2448 j = ga h 2448 j) ∧ J14 x M ∧ ∃ cn : Int, J19 x cn
theorem c14_q : ∀ c ∈ C14, c ∈ qCs := fun c m => List.mem_cons_of_mem _ (List.mem_cons_of_mem _ (List.mem_append_left _ m))
theorem c19_q : ∀ c ∈ C19, c ∈ qCs := fun c m => List.mem_cons_of_mem _ (List.mem_cons_of_mem _ (List.mem_append_right _ m))
theorem mem_c14 {c : Nat} (m : c ∈ C14) : 2495 ≤ c ∧ c ≤ 2513 := by
  simp only [List.mem_cons, List.not_mem_nil, or_false] at m
  omega
theorem mem_c19 {c : Nat} (m : c ∈ C19) : 2514 ≤ c ∧ c ≤ 2533 := by
  simp only [List.mem_cons, List.not_mem_nil, or_false] at m
  omega
theorem QR.o14 {h x y : MH} {M : Int} (g : QR h M x) (o : Only C14 x y) (j : J14 y M) (s : Str t14 r14 y) : QR h M y := by
  obtain ⟨a, b, c, d, cn, e⟩ := g
  refine ⟨(ends14 a o s).1, b.trans (o.mono c14_q), fun i i0 n0 n1 => ?_, j, cn, e.ez fun k k0 k1 i _ => o.ga (fun m => by have := mem_c14 m; omega) i⟩
  rw [o.ga (fun m => by have := mem_c14 m; omega)]
  exact c i i0 n0 n1
theorem QR.rk {h x y : MH} {M : Int} (g : QR h M x) (r : Rk x y M) : QR h M y := by
  have w := r.j14 g.2.2.2.1
  exact g.o14 w.2 w.1 ((str_of (by decide +kernel) g.1 : Str t14 r14 x).rk r)
theorem QR.o19 {h x y : MH} {M : Int} (g : QR h M x) (o : Only C19 x y) (j : ∃ cn : Int, J19 y cn) (s : Str t19 r19 y) : QR h M y := by
  obtain ⟨a, b, c, d, cn, e⟩ := g
  refine ⟨(ends19 a o s).1, b.trans (o.mono c19_q), fun i i0 n0 n1 => ?_, d.ez fun k k0 k1 i _ => o.ga (fun m => by have := mem_c19 m; omega) i, j⟩
  rw [o.ga (fun m => by have := mem_c19 m; omega)]
  exact c i i0 n0 n1
theorem QR.fld {h x : MH} {M j v : Int} (g : QR h M x) (w : j = 0 ∨ j = 18) : QR h M (sa x 2448 j v) := by
  obtain ⟨a, b, c, d, cn, e⟩ := g
  have o : ∀ k : Nat, k ≠ 2448 → ∀ i, ga (sa x 2448 j v) k i = ga x k i := fun k n i => ga_ne _ _ _ _ n i
  refine ⟨st_fld2 a (by rcases w with rfl | rfl <;> decide +kernel) (by decide +kernel), b.set List.mem_cons_self, fun i i0 n0 n1 => ?_, d.ez fun k k0 k1 i _ => o k (by omega) i, cn, e.ez fun k k0 k1 i _ => o k (by omega) i⟩
  rw [ga_sa _ _ _ (by omega) i0, if_neg (by omega)]
  exact c i i0 n0 n1
theorem QR.cor {h x : MH} {M j v : Int} (g : QR h M x) : QR h M (sa x 2626 j v) := by
  obtain ⟨a, b, c, d, cn, e⟩ := g
  have o : ∀ k : Nat, k ≠ 2626 → ∀ i, ga (sa x 2626 j v) k i = ga x k i := fun k n i => ga_ne _ _ _ _ n i
  refine ⟨st_arr a (by decide +kernel), b.set (List.mem_cons_of_mem _ List.mem_cons_self), fun i i0 n0 n1 => ?_, d.ez fun k k0 k1 i _ => o k (by omega) i, cn, e.ez fun k k0 k1 i _ => o k (by omega) i⟩
  rw [o 2448 (by decide)]
  exact c i i0 n0 n1
/-- what is told of a value in parts -/
def AT9 (x : MH) (M row k q part v : Int) : Prop := v = (if part = -1 then -2 else -1) ∨ ∃ r : Rat, VQ x M row k q r ∧ -1 ≤ part ∧ ga x 2495 16 ≠ 0 ∧ SzQ 5 r ∧ (r.den : Int) < 1000000000000000000000000000000000000 ∧ AtR r part v ∧ BR x M row k q
theorem QR.at {h x : MH} {M row k q part : Int} (g : QR h M x) : MCal KX14_at yX14_at 0 0 [(2, ((2495 : Nat) : Int)), (0, row), (0, k), (0, q), (0, part)] x (mRL fun v h' => QR h M h' ∧ Rk x h' M ∧ AT9 h' M row k q part v) :=
  MCal.mono (fun r h' p => ⟨p.1, p.2.1, g.rk p.2.2.1, p.2.2.1, p.2.2.2⟩) (h_X14_atB g.2.2.2.1.1 g.2.2.2.1.2.1 (str_of (by decide +kernel) g.1))
theorem AT9.b {x : MH} {M row k q part v : Int} (a : AT9 x M row k q part v) (p : 0 ≤ part) : -1 ≤ v ∧ v < 1000000000000000000 := by
  rcases a with w | ⟨r, _, _, _, _, _, w, _⟩
  · rw [if_neg (by omega)] at w
    omega
  · rw [w.2 p]
    omega
theorem AT9.s {x : MH} {M row k q v : Int} (a : AT9 x M row k q (-1) v) : -2 ≤ v ∧ v ≤ 1 := by
  rcases a with w | ⟨r, _, _, _, _, _, w, _⟩
  · rw [if_pos rfl] at w
    omega
  · rw [w.1 (by decide)]
    have := sign_b r.num
    omega
/-- what is below is not 0 -/
theorem AT9.low {x y : MH} {M row k q v w : Int} (M3 : M ≤ 3) (a : AT9 x M row k q 1 v) (b : AT9 y M row k q 3 w) (w0 : w = 0) (r : Rk x y M) : v ≠ 0 := by
  rcases a with z | ⟨r1, v1, _, n1, _, _, t1, _⟩
  · rw [if_neg (by decide)] at z
    omega
  · rcases b with z | ⟨r2, v2, _, _, _, d2, t2, b2⟩
    · rw [if_neg (by decide)] at z
      omega
    · have e := VQ.uniq M3 b2 (v1.rk r n1) v2
      subst e
      have e1 := t1.2 (by decide)
      have e2 := t2.2 (by decide)
      rw [if_neg (by decide)] at e1 e2
      have p0 : TP ((1 : Int) / 2).toNat = 1 := by decide
      have p1 : TP ((3 : Int) / 2).toNat = 1000000000000000000 := by decide
      rw [p0] at e1
      rw [p1] at e2
      have := r1.den_pos
      omega
